/-! The class: more of a school: loops over learners. -/
noncomputable section
def K_bc (x : Int32) : Int32 :=
  let a := x - ((x.toUInt32 >>> ((1 : Int32).toUInt32 &&& Int32.toUInt32 31)).toInt32 &&& 1431655765)
  let b := (a &&& 858993459) + ((a.toUInt32 >>> ((2 : Int32).toUInt32 &&& Int32.toUInt32 31)).toInt32 &&& 858993459)
  let c := (b + (b.toUInt32 >>> ((4 : Int32).toUInt32 &&& Int32.toUInt32 31)).toInt32) &&& 252645135
  let d := c + (c.toUInt32 >>> ((8 : Int32).toUInt32 &&& Int32.toUInt32 31)).toInt32
  let e := d + (d.toUInt32 >>> ((16 : Int32).toUInt32 &&& Int32.toUInt32 31)).toInt32
  e &&& 63
theorem bc_ok {Γ : ex_G} {σ : ex_S} (x : Int32) : RetV Γ m_Integer_bitCount [.int x] σ (.int (K_bc x)) := by
  refine Ret.start pm_279 rfl ?_
  refine Ev.iload_n rfl rfl ?_
  refine Ev.iload_n rfl rfl ?_
  refine Ev.iconst (v := 1) rfl (by decide) ?_
  refine Ev.iushr rfl ?_
  refine Ev.ldcw (v := (1431655765)) rfl rfl ?_
  refine Ev.iand rfl ?_
  refine Ev.isub rfl ?_
  refine Ev.istore_n rfl rfl rfl ?_
  refine Ev.iload_n rfl rfl ?_
  refine Ev.ldcw (v := (858993459)) rfl rfl ?_
  refine Ev.iand rfl ?_
  refine Ev.iload_n rfl rfl ?_
  refine Ev.iconst (v := 2) rfl (by decide) ?_
  refine Ev.iushr rfl ?_
  refine Ev.ldcw (v := (858993459)) rfl rfl ?_
  refine Ev.iand rfl ?_
  refine Ev.iadd rfl ?_
  refine Ev.istore_n rfl rfl rfl ?_
  refine Ev.iload_n rfl rfl ?_
  refine Ev.iload_n rfl rfl ?_
  refine Ev.iconst (v := 4) rfl (by decide) ?_
  refine Ev.iushr rfl ?_
  refine Ev.iadd rfl ?_
  refine Ev.ldcw (v := (252645135)) rfl rfl ?_
  refine Ev.iand rfl ?_
  refine Ev.istore_n rfl rfl rfl ?_
  refine Ev.iload_n rfl rfl ?_
  refine Ev.iload_n rfl rfl ?_
  refine Ev.bipush (v := 8) rfl (by decide) ?_
  refine Ev.iushr rfl ?_
  refine Ev.iadd rfl ?_
  refine Ev.istore_n rfl rfl rfl ?_
  refine Ev.iload_n rfl rfl ?_
  refine Ev.iload_n rfl rfl ?_
  refine Ev.bipush (v := 16) rfl (by decide) ?_
  refine Ev.iushr rfl ?_
  refine Ev.iadd rfl ?_
  refine Ev.istore_n rfl rfl rfl ?_
  refine Ev.iload_n rfl rfl ?_
  refine Ev.bipush (v := 63) rfl (by decide) ?_
  refine Ev.iand rfl ?_
  refine Ev.iret (ty := .int) rfl rfl rfl (Nat.le_refl _) (Nat.le_refl _) ?_
  exact ⟨rfl, rfl⟩
section
variable {Γ : ex_G} {σ : ex_S} {a c : Nat} {S : Sch} {C : Les}
theorem lhas_ok (hC : isL σ c C) (l : Int32) : RetV Γ m_Lesson_has [.ref c, .int l] σ (.int (if K_bit (C 5) l = 0 then 0 else 1)) := by
  unfold isL at hC
  refine Ret.start pm_115 rfl ?_
  refine Ev.aload_n rfl rfl ?_
  refine Ev.getf rfl rfl (by assumption) rfl ?_
  refine Ev.iload_n rfl rfl ?_
  refine Ev.ishr rfl ?_
  refine Ev.iconst (v := 1) rfl (by decide) ?_
  refine Ev.iand rfl ?_
  refine Ev.if_eq (tgt := 15) rfl (by decide) (fun c8 => ?_) (fun c8 => ?_)
  · skip
    refine Ev.iconst (v := 0) rfl (by decide) ?_
    refine Ev.iret (ty := .boolean) rfl rfl rfl (Nat.le_refl _) (Nat.le_refl _) ?_
    exact ⟨by simp [K_bit, *], rfl⟩
  · skip
    refine Ev.iconst (v := 1) rfl (by decide) ?_
    refine Ev.goto (tgt := 16) rfl (by decide) ?_
    refine Ev.iret (ty := .boolean) rfl rfl rfl (Nat.le_refl _) (Nat.le_refl _) ?_
    exact ⟨by simp [K_bit, *], rfl⟩
theorem can_ok (hS : isS σ a S) (hC : isL σ c C) (l : Int32) (hl : vp_in l 16) : RetV Γ m_School_can [.ref a, .ref c, .int l] σ (.int (K_can S C l)) := by
  obtain ⟨h0, h1, h2, h3, h4, h5, h6, h7, h8, h9, h10⟩ := id hS
  have g0 := hC
  unfold isL at g0
  unfold RetV
  generalize hQ : (fun (r : Option Value) (σ' : ex_S) => r = some ((.int (K_can S C l)) : Value) ∧ σ' = σ) = Q
  refine Ret.start pm_95 rfl ?_
  refine Ev.aload_n rfl rfl ?_
  refine Ev.getf rfl rfl (by assumption) rfl ?_
  refine Ev.iload_n rfl rfl ?_
  refine Ev.iald rfl (by assumption) hl ?_
  refine Ev.aload_n rfl rfl ?_
  refine Ev.getf rfl rfl (by assumption) rfl ?_
  refine Ev.ishr rfl ?_
  refine Ev.iconst (v := 1) rfl (by decide) ?_
  refine Ev.iand rfl ?_
  refine Ev.if_eq (tgt := 36) rfl (by decide) (fun c13 => ?_) (fun c13 => ?_)
  · skip
    refine Ev.iconst (v := 0) rfl (by decide) ?_
    refine Ev.iret (ty := .boolean) rfl rfl rfl (Nat.le_refl _) (Nat.le_refl _) ?_
    rw [← hQ]
    exact ⟨by simp [K_can, K_bit, *], rfl⟩
  · skip
    refine Ev.aload_n rfl rfl ?_
    refine Ev.getf rfl rfl (by assumption) rfl ?_
    refine Ev.iload_n rfl rfl ?_
    refine Ev.iald rfl (by assumption) hl ?_
    refine Ev.aload_n rfl rfl ?_
    refine Ev.getf rfl rfl (by assumption) rfl ?_
    refine Ev.bipush (v := 6) rfl (by decide) ?_
    refine Ev.ialdN (k := 6) rfl (by assumption) (by decide) ⟨(by decide), by decide⟩ ?_
    refine Ev.icmp_lt (tgt := 36) rfl (by decide) (fun c29 => ?_) (fun c29 => ?_)
    · skip
      refine Ev.iconst (v := 0) rfl (by decide) ?_
      refine Ev.iret (ty := .boolean) rfl rfl rfl (Nat.le_refl _) (Nat.le_refl _) ?_
      rw [← hQ]
      exact ⟨by simp [K_can, K_bit, *], rfl⟩
    · skip
      refine Ev.iconst (v := 1) rfl (by decide) ?_
      refine Ev.goto (tgt := 37) rfl (by decide) ?_
      refine Ev.iret (ty := .boolean) rfl rfl rfl (Nat.le_refl _) (Nat.le_refl _) ?_
      rw [← hQ]
      exact ⟨by simp [K_can, K_bit, *], rfl⟩
def K_takes (S : Sch) (C : Les) (l : Int32) : Int32 := if K_can S C l = 0 then 0 else if S.2.2 9 3 ≤ K_bc (C 5) then 0 else 1
theorem takes_ok (hS : isS σ a S) (hC : isL σ c C) (l : Int32) (hl : vp_in l 16) : RetV Γ m_School_takesOneMore [.ref a, .ref c, .int l] σ (.int (K_takes S C l)) := by
  obtain ⟨h0, h1, h2, h3, h4, h5, h6, h7, h8, h9, h10⟩ := id hS
  have g0 := hC
  unfold isL at g0
  unfold RetV
  generalize hQ : (fun (r : Option Value) (σ' : ex_S) => r = some ((.int (K_takes S C l)) : Value) ∧ σ' = σ) = Q
  refine Ret.start pm_96 rfl ?_
  refine Ev.aload_n rfl rfl ?_
  refine Ev.aload_n rfl rfl ?_
  refine Ev.iload_n rfl rfl ?_
  refine Ev.cV2 rfl rfl (by assumption) rfl rfl (by decide) ⟨(Nat.le_refl _), (Nat.le_refl _)⟩ (can_ok hS hC l hl) ?_
  refine Ev.if_eq (tgt := 29) rfl (by decide) (fun c6 => ?_) (fun c6 => ?_)
  · skip
    refine Ev.iconst (v := 0) rfl (by decide) ?_
    refine Ev.iret (ty := .boolean) rfl rfl rfl (Nat.le_refl _) (Nat.le_refl _) ?_
    rw [← hQ]
    exact ⟨by simp [K_takes, *], rfl⟩
  · skip
    refine Ev.aload_n rfl rfl ?_
    refine Ev.getf rfl rfl (by assumption) rfl ?_
    refine Ev.cS1 rfl rfl rfl (by decide) ⟨(Nat.le_refl _), (Nat.le_refl _)⟩ (bc_ok _) ?_
    refine Ev.aload_n rfl rfl ?_
    refine Ev.getf rfl rfl (by assumption) rfl ?_
    refine Ev.iconst (v := 3) rfl (by decide) ?_
    refine Ev.ialdN (k := 3) rfl (by assumption) (by decide) ⟨(by decide), by decide⟩ ?_
    refine Ev.icmp_ge (tgt := 29) rfl (by decide) (fun c22 => ?_) (fun c22 => ?_)
    · skip
      refine Ev.iconst (v := 0) rfl (by decide) ?_
      refine Ev.iret (ty := .boolean) rfl rfl rfl (Nat.le_refl _) (Nat.le_refl _) ?_
      rw [← hQ]
      exact ⟨by simp [K_takes, *], rfl⟩
    · skip
      refine Ev.iconst (v := 1) rfl (by decide) ?_
      refine Ev.goto (tgt := 30) rfl (by decide) ?_
      refine Ev.iret (ty := .boolean) rfl rfl rfl (Nat.le_refl _) (Nat.le_refl _) ?_
      rw [← hQ]
      exact ⟨by simp [K_takes, *], rfl⟩
theorem alone_ok (hS : isS σ a S) (hC : isL σ c C) (own : Int32) (ht : C 0 = 2 → K_hasT S (C 1) = 1) (hn : S.2.1 ≤ 5)  : RetV Γ m_School_alone [.ref a, .ref c, .int own] σ (.int (K_alone S C own)) := by
  obtain ⟨h0, h1, h2, h3, h4, h5, h6, h7, h8, h9, h10⟩ := id hS
  have g0 := hC
  unfold isL at g0
  unfold RetV
  generalize hQ : (fun (r : Option Value) (σ' : ex_S) => r = some ((.int (K_alone S C own)) : Value) ∧ σ' = σ) = Q
  refine Ret.start pm_84 rfl ?_
  refine Ev.aload_n rfl rfl ?_
  refine Ev.getf rfl rfl (by assumption) rfl ?_
  by_cases k4_1 : C 0 = 1
  · refine Ev.tableIn (off := 28) (tgt := 32) rfl (by rw [k4_1]; decide) (by rw [k4_1]; decide) (by rw [k4_1]; decide) (by decide) ?_
    refine Ev.aload_n rfl rfl ?_
    refine Ev.aload_n rfl rfl ?_
    refine Ev.getf rfl rfl (by assumption) rfl ?_
    refine Ev.iload_n rfl rfl ?_
    refine Ev.cV2 rfl rfl (by assumption) rfl rfl (by decide) ⟨(Nat.le_refl _), (Nat.le_refl _)⟩ (base_ok hS _ _) ?_
    refine Ev.aload_n rfl rfl ?_
    refine Ev.aload_n rfl rfl ?_
    refine Ev.getf rfl rfl (by assumption) rfl ?_
    refine Ev.iload_n rfl rfl ?_
    refine Ev.cV2 rfl rfl (by assumption) rfl rfl (by decide) ⟨(Nat.le_refl _), (Nat.le_refl _)⟩ (base_ok hS _ _) ?_
    refine Ev.iadd rfl ?_
    refine Ev.iconst (v := 2) rfl (by decide) ?_
    refine Ev.idiv rfl (by decide) ?_
    refine Ev.iret (ty := .int) rfl rfl rfl (Nat.le_refl _) (Nat.le_refl _) ?_
    rw [← hQ]
    exact ⟨by simp [K_alone, *], rfl⟩
  by_cases k4_2 : C 0 = 2
  · refine Ev.tableIn (off := 50) (tgt := 54) rfl (by rw [k4_2]; decide) (by rw [k4_2]; decide) (by rw [k4_2]; decide) (by decide) ?_
    refine Ev.aload_n rfl rfl ?_
    refine Ev.aload_n rfl rfl ?_
    refine Ev.aload_n rfl rfl ?_
    refine Ev.getf rfl rfl (by assumption) rfl ?_
    refine Ev.iload_n rfl rfl ?_
    refine Ev.aload_n rfl rfl ?_
    refine Ev.getf rfl rfl (by assumption) rfl ?_
    refine Ev.cV3 rfl rfl (by assumption) rfl rfl (by decide) ⟨(Nat.le_refl _), (Nat.le_refl _)⟩ (nearer_ok hS _ _ _ (ht k4_2) hn) ?_
    refine Ev.iload_n rfl rfl ?_
    refine Ev.cV2 rfl rfl (by assumption) rfl rfl (by decide) ⟨(Nat.le_refl _), (Nat.le_refl _)⟩ (base_ok hS _ _) ?_
    refine Ev.iret (ty := .int) rfl rfl rfl (Nat.le_refl _) (Nat.le_refl _) ?_
    rw [← hQ]
    exact ⟨by simp [K_alone, *], rfl⟩
  by_cases k4_3 : C 0 = 3
  · refine Ev.tableIn (off := 69) (tgt := 73) rfl (by rw [k4_3]; decide) (by rw [k4_3]; decide) (by rw [k4_3]; decide) (by decide) ?_
    refine Ev.aload_n rfl rfl ?_
    refine Ev.aload_n rfl rfl ?_
    refine Ev.getf rfl rfl (by assumption) rfl ?_
    refine Ev.iload_n rfl rfl ?_
    refine Ev.cV2 rfl rfl (by assumption) rfl rfl (by decide) ⟨(Nat.le_refl _), (Nat.le_refl _)⟩ (base_ok hS _ _) ?_
    refine Ev.aload_n rfl rfl ?_
    refine Ev.getf rfl rfl (by assumption) rfl ?_
    refine Ev.bipush (v := 10) rfl (by decide) ?_
    refine Ev.ialdN (k := 10) rfl (by assumption) (by decide) ⟨(by decide), by decide⟩ ?_
    refine Ev.imul rfl ?_
    refine Ev.bipush (v := 100) rfl (by decide) ?_
    refine Ev.idiv rfl (by decide) ?_
    refine Ev.iret (ty := .int) rfl rfl rfl (Nat.le_refl _) (Nat.le_refl _) ?_
    rw [← hQ]
    exact ⟨by simp [K_alone, *], rfl⟩
  refine Ev.tableOut (tgt := 94) rfl (by have e0 : ¬ (C 0).toInt = 1 := fun h => k4_1 (Int32.toInt_inj.mp (h.trans (by decide))); have e1 : ¬ (C 0).toInt = 2 := fun h => k4_2 (Int32.toInt_inj.mp (h.trans (by decide))); have e2 : ¬ (C 0).toInt = 3 := fun h => k4_3 (Int32.toInt_inj.mp (h.trans (by decide))); omega) (by decide) ?_
  refine Ev.aload_n rfl rfl ?_
  refine Ev.aload_n rfl rfl ?_
  refine Ev.getf rfl rfl (by assumption) rfl ?_
  refine Ev.iload_n rfl rfl ?_
  refine Ev.cV2 rfl rfl (by assumption) rfl rfl (by decide) ⟨(Nat.le_refl _), (Nat.le_refl _)⟩ (base_ok hS _ _) ?_
  refine Ev.iret (ty := .int) rfl rfl rfl (Nat.le_refl _) (Nat.le_refl _) ?_
  rw [← hQ]
  exact ⟨by simp [K_alone, *], rfl⟩
theorem fitting_ok (hS : isS σ a S) (hC : isL σ c C) (own near : Int32) (ht : C 0 = 2 → K_hasT S (C 1) = 1) (hn : S.2.1 ≤ 5)  : RetV Γ m_School_fitting [.ref a, .ref c, .int own, .int near] σ (.int (K_fitting S C own near)) := by
  obtain ⟨h0, h1, h2, h3, h4, h5, h6, h7, h8, h9, h10⟩ := id hS
  have g0 := hC
  unfold isL at g0
  unfold RetV
  generalize hQ : (fun (r : Option Value) (σ' : ex_S) => r = some ((.int (K_fitting S C own near)) : Value) ∧ σ' = σ) = Q
  refine Ret.start pm_86 rfl ?_
  refine Ev.aload_n rfl rfl ?_
  refine Ev.getf rfl rfl (by assumption) rfl ?_
  refine Ev.iconst (v := 4) rfl (by decide) ?_
  refine Ev.icmp_ne (tgt := 26) rfl (by decide) (fun c5 => ?_) (fun c5 => ?_)
  · skip
    refine Ev.iconst (v := 0) rfl (by decide) ?_
    refine Ev.istore rfl rfl rfl ?_
    refine Ev.aload_n rfl rfl ?_
    refine Ev.aload_n rfl rfl ?_
    refine Ev.iload_n rfl rfl ?_
    refine Ev.cV2 rfl rfl (by assumption) rfl rfl (by decide) ⟨(Nat.le_refl _), (Nat.le_refl _)⟩ (alone_ok hS hC own ht hn) ?_
    refine Ev.iload rfl rfl ?_
    refine Ev.if_eq (tgt := 50) rfl (by decide) (fun c37 => ?_) (fun c37 => absurd c37 (by decide))
    refine Ev.iconst (v := 0) rfl (by decide) ?_
    refine Ev.iadd rfl ?_
    refine Ev.iret (ty := .int) rfl rfl rfl (Nat.le_refl _) (Nat.le_refl _) ?_
    rw [← hQ]
    exact ⟨by simp [K_fitting, K_told, *], rfl⟩
  · skip
    refine Ev.iload_n rfl rfl ?_
    refine Ev.iconst (v := 1) rfl (by decide) ?_
    refine Ev.ishl rfl ?_
    refine Ev.iload_n rfl rfl ?_
    refine Ev.iconst (v := 1) rfl (by decide) ?_
    refine Ev.ishr rfl ?_
    refine Ev.ior rfl ?_
    refine Ev.iload_n rfl rfl ?_
    refine Ev.ishr rfl ?_
    refine Ev.iconst (v := 1) rfl (by decide) ?_
    refine Ev.iand rfl ?_
    refine Ev.if_eq (tgt := 26) rfl (by decide) (fun c19 => ?_) (fun c19 => ?_)
    · skip
      refine Ev.iconst (v := 0) rfl (by decide) ?_
      refine Ev.istore rfl rfl rfl ?_
      refine Ev.aload_n rfl rfl ?_
      refine Ev.aload_n rfl rfl ?_
      refine Ev.iload_n rfl rfl ?_
      refine Ev.cV2 rfl rfl (by assumption) rfl rfl (by decide) ⟨(Nat.le_refl _), (Nat.le_refl _)⟩ (alone_ok hS hC own ht hn) ?_
      refine Ev.iload rfl rfl ?_
      refine Ev.if_eq (tgt := 50) rfl (by decide) (fun c37 => ?_) (fun c37 => absurd c37 (by decide))
      refine Ev.iconst (v := 0) rfl (by decide) ?_
      refine Ev.iadd rfl ?_
      refine Ev.iret (ty := .int) rfl rfl rfl (Nat.le_refl _) (Nat.le_refl _) ?_
      rw [← hQ]
      exact ⟨by simp [K_fitting, K_told, *], rfl⟩
    · skip
      refine Ev.iconst (v := 1) rfl (by decide) ?_
      refine Ev.goto (tgt := 27) rfl (by decide) ?_
      refine Ev.istore rfl rfl rfl ?_
      refine Ev.aload_n rfl rfl ?_
      refine Ev.aload_n rfl rfl ?_
      refine Ev.iload_n rfl rfl ?_
      refine Ev.cV2 rfl rfl (by assumption) rfl rfl (by decide) ⟨(Nat.le_refl _), (Nat.le_refl _)⟩ (alone_ok hS hC own ht hn) ?_
      refine Ev.iload rfl rfl ?_
      refine Ev.if_eq (tgt := 50) rfl (by decide) (fun c37 => absurd c37 (by decide)) (fun c37 => ?_)
      refine Ev.aload_n rfl rfl ?_
      refine Ev.getf rfl rfl (by assumption) rfl ?_
      refine Ev.bipush (v := 9) rfl (by decide) ?_
      refine Ev.ialdN (k := 9) rfl (by assumption) (by decide) ⟨(by decide), by decide⟩ ?_
      refine Ev.goto (tgt := 51) rfl (by decide) ?_
      refine Ev.iadd rfl ?_
      refine Ev.iret (ty := .int) rfl rfl rfl (Nat.le_refl _) (Nat.le_refl _) ?_
      rw [← hQ]
      exact ⟨by simp [K_fitting, K_told, *], rfl⟩
def K_on (S : Sch) (e : Int32) : Int32 := fo (fun i x => x + K_bit (S.2.2 1 i) e) S.1 0 0
def K_onT (S : Sch) (e : Int32) : Int32 := fo (fun i x => x + K_bit (S.2.2 5 i) e) S.2.1 0 0
def K_payers (S : Sch) (fee : Int32) : Int32 := fo (fun i x => x + (if S.2.2 2 i < fee then 0 else 1)) S.1 0 0
def K_least (S : Sch) : Int32 := fo (fun i x => K_min x (S.2.2 2 i)) S.1 0 999
theorem on_ok (hS : isS σ a S) (e : Int32) (hn : S.1 ≤ 16) : RetV Γ m_School_learnersOn [.ref a, .int e] σ (.int (K_on S e)) := by
  obtain ⟨h0, h1, h2, h3, h4, h5, h6, h7, h8, h9, h10⟩ := id hS
  unfold RetV
  generalize hQ : (fun (r : Option Value) (σ' : ex_S) => r = some ((.int (K_on S e)) : Value) ∧ σ' = σ) = Q
  refine Ret.start pm_98 rfl ?_
  refine Ev.iconst (v := 0) rfl (by decide) ?_
  refine Ev.istore_n rfl rfl rfl ?_
  refine Ev.iconst (v := 0) rfl (by decide) ?_
  refine Ev.istore_n rfl rfl rfl ?_
  skip
  refine Ev.cg (L' := [some (.ref a), some (.int e), some (.int 0), some (.int (nI 0))]) ?_ (by first | rfl | simp [nI_0])
  refine lp (fun i z => Ev Γ 0 0 m_School_learnersOn 0 0 4 [some (.ref a), some (.int e), some (.int z), some (.int (nI i))] [] σ Q) (fun i x => x + K_bit (S.2.2 1 i) e) (S.1) (fun i z hi hnx => ?_) (S.1) 0 (0) (by omega) ?_
  · skip
    refine Ev.iload_n rfl rfl ?_
    refine Ev.aload_n rfl rfl ?_
    refine Ev.getf rfl rfl (by assumption) rfl ?_
    refine Ev.icmp_ge (tgt := 31) rfl (by decide) (fun c9 => absurd c9 (nI_ge hi (by omega))) (fun c9 => ?_)
    refine Ev.iload_n rfl rfl ?_
    refine Ev.aload_n rfl rfl ?_
    refine Ev.getf rfl rfl (by assumption) rfl ?_
    refine Ev.iload_n rfl rfl ?_
    refine Ev.ialdN (k := i) rfl (by assumption) rfl ⟨(by omega), by decide⟩ ?_
    refine Ev.iload_n rfl rfl ?_
    refine Ev.ishr rfl ?_
    refine Ev.iconst (v := 1) rfl (by decide) ?_
    refine Ev.iand rfl ?_
    refine Ev.iadd rfl ?_
    refine Ev.istore_n rfl rfl rfl ?_
    refine Ev.iinc (d := 1) rfl rfl rfl (by decide) rfl ?_
    refine Ev.goto (tgt := 4) rfl (by decide) ?_
    exact hnx.cg (by first | (simp [nI_1, K_bit, *]; done) | (simp [nI_1, K_bit, *]; rfl))
  · skip
    refine Ev.iload_n rfl rfl ?_
    refine Ev.aload_n rfl rfl ?_
    refine Ev.getf rfl rfl (by assumption) rfl ?_
    refine Ev.icmp_ge (tgt := 31) rfl (by decide) (fun c9 => ?_) (fun c9 => absurd (nI_le (Nat.le_refl _) (by omega)) c9)
    refine Ev.iload_n rfl rfl ?_
    refine Ev.iret (ty := .int) rfl rfl rfl (Nat.le_refl _) (Nat.le_refl _) ?_
    rw [← hQ]
    exact ⟨rfl, rfl⟩
theorem onT_ok (hS : isS σ a S) (e : Int32) (hn : S.2.1 ≤ 5) : RetV Γ m_School_teachersOn [.ref a, .int e] σ (.int (K_onT S e)) := by
  obtain ⟨h0, h1, h2, h3, h4, h5, h6, h7, h8, h9, h10⟩ := id hS
  unfold RetV
  generalize hQ : (fun (r : Option Value) (σ' : ex_S) => r = some ((.int (K_onT S e)) : Value) ∧ σ' = σ) = Q
  refine Ret.start pm_99 rfl ?_
  refine Ev.iconst (v := 0) rfl (by decide) ?_
  refine Ev.istore_n rfl rfl rfl ?_
  refine Ev.iconst (v := 0) rfl (by decide) ?_
  refine Ev.istore_n rfl rfl rfl ?_
  skip
  refine Ev.cg (L' := [some (.ref a), some (.int e), some (.int 0), some (.int (nI 0))]) ?_ (by first | rfl | simp [nI_0])
  refine lp (fun i z => Ev Γ 0 0 m_School_teachersOn 0 0 4 [some (.ref a), some (.int e), some (.int z), some (.int (nI i))] [] σ Q) (fun i x => x + K_bit (S.2.2 5 i) e) (S.2.1) (fun i z hi hnx => ?_) (S.2.1) 0 (0) (by omega) ?_
  · skip
    refine Ev.iload_n rfl rfl ?_
    refine Ev.aload_n rfl rfl ?_
    refine Ev.getf rfl rfl (by assumption) rfl ?_
    refine Ev.icmp_ge (tgt := 31) rfl (by decide) (fun c9 => absurd c9 (nI_ge hi (by omega))) (fun c9 => ?_)
    refine Ev.iload_n rfl rfl ?_
    refine Ev.aload_n rfl rfl ?_
    refine Ev.getf rfl rfl (by assumption) rfl ?_
    refine Ev.iload_n rfl rfl ?_
    refine Ev.ialdN (k := i) rfl (by assumption) rfl ⟨(by omega), by decide⟩ ?_
    refine Ev.iload_n rfl rfl ?_
    refine Ev.ishr rfl ?_
    refine Ev.iconst (v := 1) rfl (by decide) ?_
    refine Ev.iand rfl ?_
    refine Ev.iadd rfl ?_
    refine Ev.istore_n rfl rfl rfl ?_
    refine Ev.iinc (d := 1) rfl rfl rfl (by decide) rfl ?_
    refine Ev.goto (tgt := 4) rfl (by decide) ?_
    exact hnx.cg (by first | (simp [nI_1, K_bit, *]; done) | (simp [nI_1, K_bit, *]; rfl))
  · skip
    refine Ev.iload_n rfl rfl ?_
    refine Ev.aload_n rfl rfl ?_
    refine Ev.getf rfl rfl (by assumption) rfl ?_
    refine Ev.icmp_ge (tgt := 31) rfl (by decide) (fun c9 => ?_) (fun c9 => absurd (nI_le (Nat.le_refl _) (by omega)) c9)
    refine Ev.iload_n rfl rfl ?_
    refine Ev.iret (ty := .int) rfl rfl rfl (Nat.le_refl _) (Nat.le_refl _) ?_
    rw [← hQ]
    exact ⟨rfl, rfl⟩
theorem payers_ok (hS : isS σ a S) (fee : Int32) (hn : S.1 ≤ 16) : RetV Γ m_School_payersOf [.ref a, .int fee] σ (.int (K_payers S fee)) := by
  obtain ⟨h0, h1, h2, h3, h4, h5, h6, h7, h8, h9, h10⟩ := id hS
  unfold RetV
  generalize hQ : (fun (r : Option Value) (σ' : ex_S) => r = some ((.int (K_payers S fee)) : Value) ∧ σ' = σ) = Q
  refine Ret.start pm_103 rfl ?_
  refine Ev.iconst (v := 0) rfl (by decide) ?_
  refine Ev.istore_n rfl rfl rfl ?_
  refine Ev.iconst (v := 0) rfl (by decide) ?_
  refine Ev.istore_n rfl rfl rfl ?_
  skip
  refine Ev.cg (L' := [some (.ref a), some (.int fee), some (.int 0), some (.int (nI 0))]) ?_ (by first | rfl | simp [nI_0])
  refine lp (fun i z => Ev Γ 0 0 m_School_payersOf 0 0 4 [some (.ref a), some (.int fee), some (.int z), some (.int (nI i))] [] σ Q) (fun i x => x + (if S.2.2 2 i < fee then 0 else 1)) (S.1) (fun i z hi hnx => ?_) (S.1) 0 (0) (by omega) ?_
  · skip
    refine Ev.iload_n rfl rfl ?_
    refine Ev.aload_n rfl rfl ?_
    refine Ev.getf rfl rfl (by assumption) rfl ?_
    refine Ev.icmp_ge (tgt := 36) rfl (by decide) (fun c9 => absurd c9 (nI_ge hi (by omega))) (fun c9 => ?_)
    refine Ev.iload_n rfl rfl ?_
    refine Ev.aload_n rfl rfl ?_
    refine Ev.getf rfl rfl (by assumption) rfl ?_
    refine Ev.iload_n rfl rfl ?_
    refine Ev.ialdN (k := i) rfl (by assumption) rfl ⟨(by omega), by decide⟩ ?_
    refine Ev.iload_n rfl rfl ?_
    refine Ev.icmp_lt (tgt := 27) rfl (by decide) (fun c20 => ?_) (fun c20 => ?_)
    · skip
      refine Ev.iconst (v := 0) rfl (by decide) ?_
      refine Ev.iadd rfl ?_
      refine Ev.istore_n rfl rfl rfl ?_
      refine Ev.iinc (d := 1) rfl rfl rfl (by decide) rfl ?_
      refine Ev.goto (tgt := 4) rfl (by decide) ?_
      exact hnx.cg (by first | (simp [nI_1, *]; done) | (simp [nI_1, *]; rfl))
    · skip
      refine Ev.iconst (v := 1) rfl (by decide) ?_
      refine Ev.goto (tgt := 28) rfl (by decide) ?_
      refine Ev.iadd rfl ?_
      refine Ev.istore_n rfl rfl rfl ?_
      refine Ev.iinc (d := 1) rfl rfl rfl (by decide) rfl ?_
      refine Ev.goto (tgt := 4) rfl (by decide) ?_
      exact hnx.cg (by first | (simp [nI_1, *]; done) | (simp [nI_1, *]; rfl))
  · skip
    refine Ev.iload_n rfl rfl ?_
    refine Ev.aload_n rfl rfl ?_
    refine Ev.getf rfl rfl (by assumption) rfl ?_
    refine Ev.icmp_ge (tgt := 36) rfl (by decide) (fun c9 => ?_) (fun c9 => absurd (nI_le (Nat.le_refl _) (by omega)) c9)
    refine Ev.iload_n rfl rfl ?_
    refine Ev.iret (ty := .int) rfl rfl rfl (Nat.le_refl _) (Nat.le_refl _) ?_
    rw [← hQ]
    exact ⟨rfl, rfl⟩
theorem least_ok (hS : isS σ a S) (hn : S.1 ≤ 16) : RetV Γ m_School_leastPrice [.ref a] σ (.int (K_least S)) := by
  obtain ⟨h0, h1, h2, h3, h4, h5, h6, h7, h8, h9, h10⟩ := id hS
  unfold RetV
  generalize hQ : (fun (r : Option Value) (σ' : ex_S) => r = some ((.int (K_least S)) : Value) ∧ σ' = σ) = Q
  refine Ret.start pm_101 rfl ?_
  refine Ev.sipush (v := 999) rfl (by decide) ?_
  refine Ev.istore_n rfl rfl rfl ?_
  refine Ev.iconst (v := 0) rfl (by decide) ?_
  refine Ev.istore_n rfl rfl rfl ?_
  skip
  refine Ev.cg (L' := [some (.ref a), some (.int 999), some (.int (nI 0))]) ?_ (by first | rfl | simp [nI_0])
  refine lp (fun i z => Ev Γ 0 0 m_School_leastPrice 0 0 6 [some (.ref a), some (.int z), some (.int (nI i))] [] σ Q) (fun i x => K_min x (S.2.2 2 i)) (S.1) (fun i z hi hnx => ?_) (S.1) 0 (999) (by omega) ?_
  · skip
    refine Ev.iload_n rfl rfl ?_
    refine Ev.aload_n rfl rfl ?_
    refine Ev.getf rfl rfl (by assumption) rfl ?_
    refine Ev.icmp_ge (tgt := 31) rfl (by decide) (fun c11 => absurd c11 (nI_ge hi (by omega))) (fun c11 => ?_)
    refine Ev.iload_n rfl rfl ?_
    refine Ev.aload_n rfl rfl ?_
    refine Ev.getf rfl rfl (by assumption) rfl ?_
    refine Ev.iload_n rfl rfl ?_
    refine Ev.ialdN (k := i) rfl (by assumption) rfl ⟨(by omega), by decide⟩ ?_
    refine Ev.mmin rfl rfl rfl (Nat.le_of_ble_eq_true rfl) ⟨(Nat.le_refl _), (Nat.le_refl _)⟩ ?_
    refine Ev.istore_n rfl rfl rfl ?_
    refine Ev.iinc (d := 1) rfl rfl rfl (by decide) rfl ?_
    refine Ev.goto (tgt := 6) rfl (by decide) ?_
    exact hnx.cg (by first | (simp [nI_1, K_min, *]; done) | (simp [nI_1, K_min, *]; rfl))
  · skip
    refine Ev.iload_n rfl rfl ?_
    refine Ev.aload_n rfl rfl ?_
    refine Ev.getf rfl rfl (by assumption) rfl ?_
    refine Ev.icmp_ge (tgt := 31) rfl (by decide) (fun c11 => ?_) (fun c11 => absurd (nI_le (Nat.le_refl _) (by omega)) c11)
    refine Ev.iload_n rfl rfl ?_
    refine Ev.iret (ty := .int) rfl rfl rfl (Nat.le_refl _) (Nat.le_refl _) ?_
    rw [← hQ]
    exact ⟨rfl, rfl⟩
end
end
