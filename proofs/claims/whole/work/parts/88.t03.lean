/-! Refused: no school, no plan (the rest). -/
noncomputable section
section
variable {Γ : ex_G} {σ : ex_S} {x q a p y : Nat} {S : Sch} {T : Tol} {P : Pln} {g A : Nat → Int32}
theorem shift_none (hX : isX σ x) (hT : isT σ (x + 1) T) (hw : wT T) {u v : Int32} (hg : ¬ ∃ i j, gd T u v i j) (k : Int32) : RetV Γ m_SD_shift [.ref x, .int u, .int v, .int k] σ (.int (-1)) := by
  unfold isX at hX
  obtain ⟨t0, t1, ⟨fs, t2, t3⟩, ⟨fp, t4, t5⟩, t6, t7⟩ := id hT
  unfold RetV
  generalize hQ : (fun (r : Option Value) (σ' : ex_S) => r = some ((.int (-1)) : Value) ∧ σ' = σ) = Q
  refine Ret.start pm_32 rfl ?_
  have hw1 := hw.2.1
  rcases ix_cases u (n := tSn T) (by omega) with hu | hu | ⟨i, hi, rfl⟩
  · skip
    refine Ev.aload_n rfl rfl ?_
    refine Ev.iload_n rfl rfl ?_
    refine Ev.iload_n rfl rfl ?_
    refine Ev.cV2 rfl rfl (by assumption) rfl rfl (by decide) ⟨(Nat.le_refl _), (Nat.le_refl _)⟩ (going_none hX hT hw hg) ?_
    refine Ev.astoreN rfl rfl rfl ?_
    refine Ev.aload_n rfl rfl ?_
    refine Ev.getf rfl rfl (by assumption) rfl ?_
    refine Ev.iload_n rfl rfl ?_
    refine Ev.cV1 rfl rfl (by assumption) rfl rfl (by decide) ⟨(Nat.le_refl _), (Nat.le_refl _)⟩ (schoolAt_none hT (Or.inl hu)) ?_
    refine Ev.astoreN rfl rfl rfl ?_
    refine Ev.aloadN rfl rfl ?_
    refine Ev.iload_n rfl rfl ?_
    refine Ev.cS2 rfl rfl rfl (by decide) ⟨(Nat.le_refl _), (Nat.le_refl _)⟩ (lessonOf_null _) ?_
    refine Ev.astoreN rfl rfl rfl ?_
    refine Ev.aloadN rfl rfl ?_
    refine Ev.ifnullN (tgt := 36) rfl (by decide) ?_
    refine Ev.iconst (v := (-1)) rfl (by decide) ?_
    refine Ev.iret (ty := .int) rfl rfl rfl (Nat.le_refl _) (Nat.le_refl _) ?_
    rw [← hQ]
    exact ⟨rfl, rfl⟩
  · skip
    refine Ev.aload_n rfl rfl ?_
    refine Ev.iload_n rfl rfl ?_
    refine Ev.iload_n rfl rfl ?_
    refine Ev.cV2 rfl rfl (by assumption) rfl rfl (by decide) ⟨(Nat.le_refl _), (Nat.le_refl _)⟩ (going_none hX hT hw hg) ?_
    refine Ev.astoreN rfl rfl rfl ?_
    refine Ev.aload_n rfl rfl ?_
    refine Ev.getf rfl rfl (by assumption) rfl ?_
    refine Ev.iload_n rfl rfl ?_
    refine Ev.cV1 rfl rfl (by assumption) rfl rfl (by decide) ⟨(Nat.le_refl _), (Nat.le_refl _)⟩ (schoolAt_none hT (Or.inr hu)) ?_
    refine Ev.astoreN rfl rfl rfl ?_
    refine Ev.aloadN rfl rfl ?_
    refine Ev.iload_n rfl rfl ?_
    refine Ev.cS2 rfl rfl rfl (by decide) ⟨(Nat.le_refl _), (Nat.le_refl _)⟩ (lessonOf_null _) ?_
    refine Ev.astoreN rfl rfl rfl ?_
    refine Ev.aloadN rfl rfl ?_
    refine Ev.ifnullN (tgt := 36) rfl (by decide) ?_
    refine Ev.iconst (v := (-1)) rfl (by decide) ?_
    refine Ev.iret (ty := .int) rfl rfl rfl (Nat.le_refl _) (Nat.le_refl _) ?_
    rw [← hQ]
    exact ⟨rfl, rfl⟩
  · skip
    refine Ev.aload_n rfl rfl ?_
    refine Ev.iload_n rfl rfl ?_
    refine Ev.iload_n rfl rfl ?_
    refine Ev.cV2 rfl rfl (by assumption) rfl rfl (by decide) ⟨(Nat.le_refl _), (Nat.le_refl _)⟩ (going_none hX hT hw hg) ?_
    refine Ev.astoreN rfl rfl rfl ?_
    refine Ev.aload_n rfl rfl ?_
    refine Ev.getf rfl rfl (by assumption) rfl ?_
    refine Ev.iload_n rfl rfl ?_
    refine Ev.cV1 rfl rfl (by assumption) rfl rfl (by decide) ⟨(Nat.le_refl _), (Nat.le_refl _)⟩ (schoolAt_some hT hw1 hi) ?_
    refine Ev.astore rfl rfl rfl ?_
    refine Ev.aloadN rfl rfl ?_
    refine Ev.iload_n rfl rfl ?_
    refine Ev.cS2 rfl rfl rfl (by decide) ⟨(Nat.le_refl _), (Nat.le_refl _)⟩ (lessonOf_null _) ?_
    refine Ev.astoreN rfl rfl rfl ?_
    refine Ev.aload rfl rfl ?_
    refine Ev.ifnull rfl ?_
    refine Ev.aloadN rfl rfl ?_
    refine Ev.ifnonnullN rfl ?_
    refine Ev.iconst (v := (-1)) rfl (by decide) ?_
    refine Ev.iret (ty := .int) rfl rfl rfl (Nat.le_refl _) (Nat.le_refl _) ?_
    rw [← hQ]
    exact ⟨rfl, rfl⟩
theorem fewest_none (hX : isX σ x) (hT : isT σ (x + 1) T) (hw : wT T) {u v : Int32} (hg : ¬ ∃ i j, gd T u v i j)  : RetV Γ m_SD_fewest [.ref x, .int u, .int v] σ (.int (-1)) := by
  unfold isX at hX
  obtain ⟨t0, t1, ⟨fs, t2, t3⟩, ⟨fp, t4, t5⟩, t6, t7⟩ := id hT
  unfold RetV
  generalize hQ : (fun (r : Option Value) (σ' : ex_S) => r = some ((.int (-1)) : Value) ∧ σ' = σ) = Q
  refine Ret.start pm_18 rfl ?_
  have hw1 := hw.2.1
  rcases ix_cases u (n := tSn T) (by omega) with hu | hu | ⟨i, hi, rfl⟩
  · skip
    refine Ev.aload_n rfl rfl ?_
    refine Ev.iload_n rfl rfl ?_
    refine Ev.iload_n rfl rfl ?_
    refine Ev.cV2 rfl rfl (by assumption) rfl rfl (by decide) ⟨(Nat.le_refl _), (Nat.le_refl _)⟩ (going_none hX hT hw hg) ?_
    refine Ev.astore_nN rfl rfl rfl ?_
    refine Ev.aload_n rfl rfl ?_
    refine Ev.getf rfl rfl (by assumption) rfl ?_
    refine Ev.iload_n rfl rfl ?_
    refine Ev.cV1 rfl rfl (by assumption) rfl rfl (by decide) ⟨(Nat.le_refl _), (Nat.le_refl _)⟩ (schoolAt_none hT (Or.inl hu)) ?_
    refine Ev.astoreN rfl rfl rfl ?_
    refine Ev.aload_nN rfl rfl ?_
    refine Ev.ifnullN (tgt := 26) rfl (by decide) ?_
    refine Ev.iconst (v := (-1)) rfl (by decide) ?_
    refine Ev.goto (tgt := 37) rfl (by decide) ?_
    refine Ev.iret (ty := .int) rfl rfl rfl (Nat.le_refl _) (Nat.le_refl _) ?_
    rw [← hQ]
    exact ⟨rfl, rfl⟩
  · skip
    refine Ev.aload_n rfl rfl ?_
    refine Ev.iload_n rfl rfl ?_
    refine Ev.iload_n rfl rfl ?_
    refine Ev.cV2 rfl rfl (by assumption) rfl rfl (by decide) ⟨(Nat.le_refl _), (Nat.le_refl _)⟩ (going_none hX hT hw hg) ?_
    refine Ev.astore_nN rfl rfl rfl ?_
    refine Ev.aload_n rfl rfl ?_
    refine Ev.getf rfl rfl (by assumption) rfl ?_
    refine Ev.iload_n rfl rfl ?_
    refine Ev.cV1 rfl rfl (by assumption) rfl rfl (by decide) ⟨(Nat.le_refl _), (Nat.le_refl _)⟩ (schoolAt_none hT (Or.inr hu)) ?_
    refine Ev.astoreN rfl rfl rfl ?_
    refine Ev.aload_nN rfl rfl ?_
    refine Ev.ifnullN (tgt := 26) rfl (by decide) ?_
    refine Ev.iconst (v := (-1)) rfl (by decide) ?_
    refine Ev.goto (tgt := 37) rfl (by decide) ?_
    refine Ev.iret (ty := .int) rfl rfl rfl (Nat.le_refl _) (Nat.le_refl _) ?_
    rw [← hQ]
    exact ⟨rfl, rfl⟩
  · skip
    refine Ev.aload_n rfl rfl ?_
    refine Ev.iload_n rfl rfl ?_
    refine Ev.iload_n rfl rfl ?_
    refine Ev.cV2 rfl rfl (by assumption) rfl rfl (by decide) ⟨(Nat.le_refl _), (Nat.le_refl _)⟩ (going_none hX hT hw hg) ?_
    refine Ev.astore_nN rfl rfl rfl ?_
    refine Ev.aload_n rfl rfl ?_
    refine Ev.getf rfl rfl (by assumption) rfl ?_
    refine Ev.iload_n rfl rfl ?_
    refine Ev.cV1 rfl rfl (by assumption) rfl rfl (by decide) ⟨(Nat.le_refl _), (Nat.le_refl _)⟩ (schoolAt_some hT hw1 hi) ?_
    refine Ev.astore rfl rfl rfl ?_
    refine Ev.aload_nN rfl rfl ?_
    refine Ev.ifnullN (tgt := 26) rfl (by decide) ?_
    refine Ev.iconst (v := (-1)) rfl (by decide) ?_
    refine Ev.goto (tgt := 37) rfl (by decide) ?_
    refine Ev.iret (ty := .int) rfl rfl rfl (Nat.le_refl _) (Nat.le_refl _) ?_
    rw [← hQ]
    exact ⟨rfl, rfl⟩
theorem seats_none (hX : isX σ x) (hT : isT σ (x + 1) T) (hw : wT T) {u v : Int32} (hg : ¬ ∃ i j, gd T u v i j) (w : Int32) : RetV Γ m_SD_seats [.ref x, .int u, .int v, .int w] σ (.int (-2)) := by
  unfold isX at hX
  obtain ⟨t0, t1, ⟨fs, t2, t3⟩, ⟨fp, t4, t5⟩, t6, t7⟩ := id hT
  unfold RetV
  generalize hQ : (fun (r : Option Value) (σ' : ex_S) => r = some ((.int (-2)) : Value) ∧ σ' = σ) = Q
  refine Ret.start pm_17 rfl ?_
  have hw1 := hw.2.1
  rcases ix_cases u (n := tSn T) (by omega) with hu | hu | ⟨i, hi, rfl⟩
  · skip
    refine Ev.aload_n rfl rfl ?_
    refine Ev.iload_n rfl rfl ?_
    refine Ev.iload_n rfl rfl ?_
    refine Ev.cV2 rfl rfl (by assumption) rfl rfl (by decide) ⟨(Nat.le_refl _), (Nat.le_refl _)⟩ (going_none hX hT hw hg) ?_
    refine Ev.astoreN rfl rfl rfl ?_
    refine Ev.aload_n rfl rfl ?_
    refine Ev.getf rfl rfl (by assumption) rfl ?_
    refine Ev.iload_n rfl rfl ?_
    refine Ev.cV1 rfl rfl (by assumption) rfl rfl (by decide) ⟨(Nat.le_refl _), (Nat.le_refl _)⟩ (schoolAt_none hT (Or.inl hu)) ?_
    refine Ev.astoreN rfl rfl rfl ?_
    refine Ev.aloadN rfl rfl ?_
    refine Ev.ifnullN (tgt := 47) rfl (by decide) ?_
    refine Ev.bipush (v := (-2)) rfl (by decide) ?_
    refine Ev.iret (ty := .int) rfl rfl rfl (Nat.le_refl _) (Nat.le_refl _) ?_
    rw [← hQ]
    exact ⟨rfl, rfl⟩
  · skip
    refine Ev.aload_n rfl rfl ?_
    refine Ev.iload_n rfl rfl ?_
    refine Ev.iload_n rfl rfl ?_
    refine Ev.cV2 rfl rfl (by assumption) rfl rfl (by decide) ⟨(Nat.le_refl _), (Nat.le_refl _)⟩ (going_none hX hT hw hg) ?_
    refine Ev.astoreN rfl rfl rfl ?_
    refine Ev.aload_n rfl rfl ?_
    refine Ev.getf rfl rfl (by assumption) rfl ?_
    refine Ev.iload_n rfl rfl ?_
    refine Ev.cV1 rfl rfl (by assumption) rfl rfl (by decide) ⟨(Nat.le_refl _), (Nat.le_refl _)⟩ (schoolAt_none hT (Or.inr hu)) ?_
    refine Ev.astoreN rfl rfl rfl ?_
    refine Ev.aloadN rfl rfl ?_
    refine Ev.ifnullN (tgt := 47) rfl (by decide) ?_
    refine Ev.bipush (v := (-2)) rfl (by decide) ?_
    refine Ev.iret (ty := .int) rfl rfl rfl (Nat.le_refl _) (Nat.le_refl _) ?_
    rw [← hQ]
    exact ⟨rfl, rfl⟩
  · skip
    refine Ev.aload_n rfl rfl ?_
    refine Ev.iload_n rfl rfl ?_
    refine Ev.iload_n rfl rfl ?_
    refine Ev.cV2 rfl rfl (by assumption) rfl rfl (by decide) ⟨(Nat.le_refl _), (Nat.le_refl _)⟩ (going_none hX hT hw hg) ?_
    refine Ev.astoreN rfl rfl rfl ?_
    refine Ev.aload_n rfl rfl ?_
    refine Ev.getf rfl rfl (by assumption) rfl ?_
    refine Ev.iload_n rfl rfl ?_
    refine Ev.cV1 rfl rfl (by assumption) rfl rfl (by decide) ⟨(Nat.le_refl _), (Nat.le_refl _)⟩ (schoolAt_some hT hw1 hi) ?_
    refine Ev.astore rfl rfl rfl ?_
    refine Ev.aloadN rfl rfl ?_
    refine Ev.ifnullN (tgt := 47) rfl (by decide) ?_
    refine Ev.bipush (v := (-2)) rfl (by decide) ?_
    refine Ev.iret (ty := .int) rfl rfl rfl (Nat.le_refl _) (Nat.le_refl _) ?_
    rw [← hQ]
    exact ⟨rfl, rfl⟩
theorem ill_none (hX : isX σ x) (hT : isT σ (x + 1) T) (hw : wT T) {u v : Int32} (hg : ¬ ∃ i j, gd T u v i j) (t : Int32) : RetV Γ m_SD_ill [.ref x, .int u, .int v, .int t] σ (.int (-1)) := by
  unfold isX at hX
  obtain ⟨t0, t1, ⟨fs, t2, t3⟩, ⟨fp, t4, t5⟩, t6, t7⟩ := id hT
  unfold RetV
  generalize hQ : (fun (r : Option Value) (σ' : ex_S) => r = some ((.int (-1)) : Value) ∧ σ' = σ) = Q
  refine Ret.start pm_22 rfl ?_
  have hw1 := hw.2.1
  rcases ix_cases u (n := tSn T) (by omega) with hu | hu | ⟨i, hi, rfl⟩
  · skip
    refine Ev.aload_n rfl rfl ?_
    refine Ev.iload_n rfl rfl ?_
    refine Ev.iload_n rfl rfl ?_
    refine Ev.cV2 rfl rfl (by assumption) rfl rfl (by decide) ⟨(Nat.le_refl _), (Nat.le_refl _)⟩ (going_none hX hT hw hg) ?_
    refine Ev.astoreN rfl rfl rfl ?_
    refine Ev.aload_n rfl rfl ?_
    refine Ev.getf rfl rfl (by assumption) rfl ?_
    refine Ev.iload_n rfl rfl ?_
    refine Ev.cV1 rfl rfl (by assumption) rfl rfl (by decide) ⟨(Nat.le_refl _), (Nat.le_refl _)⟩ (schoolAt_none hT (Or.inl hu)) ?_
    refine Ev.astoreN rfl rfl rfl ?_
    refine Ev.aloadN rfl rfl ?_
    refine Ev.ifnullN (tgt := 37) rfl (by decide) ?_
    refine Ev.iconst (v := (-1)) rfl (by decide) ?_
    refine Ev.iret (ty := .int) rfl rfl rfl (Nat.le_refl _) (Nat.le_refl _) ?_
    rw [← hQ]
    exact ⟨rfl, rfl⟩
  · skip
    refine Ev.aload_n rfl rfl ?_
    refine Ev.iload_n rfl rfl ?_
    refine Ev.iload_n rfl rfl ?_
    refine Ev.cV2 rfl rfl (by assumption) rfl rfl (by decide) ⟨(Nat.le_refl _), (Nat.le_refl _)⟩ (going_none hX hT hw hg) ?_
    refine Ev.astoreN rfl rfl rfl ?_
    refine Ev.aload_n rfl rfl ?_
    refine Ev.getf rfl rfl (by assumption) rfl ?_
    refine Ev.iload_n rfl rfl ?_
    refine Ev.cV1 rfl rfl (by assumption) rfl rfl (by decide) ⟨(Nat.le_refl _), (Nat.le_refl _)⟩ (schoolAt_none hT (Or.inr hu)) ?_
    refine Ev.astoreN rfl rfl rfl ?_
    refine Ev.aloadN rfl rfl ?_
    refine Ev.ifnullN (tgt := 37) rfl (by decide) ?_
    refine Ev.iconst (v := (-1)) rfl (by decide) ?_
    refine Ev.iret (ty := .int) rfl rfl rfl (Nat.le_refl _) (Nat.le_refl _) ?_
    rw [← hQ]
    exact ⟨rfl, rfl⟩
  · skip
    refine Ev.aload_n rfl rfl ?_
    refine Ev.iload_n rfl rfl ?_
    refine Ev.iload_n rfl rfl ?_
    refine Ev.cV2 rfl rfl (by assumption) rfl rfl (by decide) ⟨(Nat.le_refl _), (Nat.le_refl _)⟩ (going_none hX hT hw hg) ?_
    refine Ev.astoreN rfl rfl rfl ?_
    refine Ev.aload_n rfl rfl ?_
    refine Ev.getf rfl rfl (by assumption) rfl ?_
    refine Ev.iload_n rfl rfl ?_
    refine Ev.cV1 rfl rfl (by assumption) rfl rfl (by decide) ⟨(Nat.le_refl _), (Nat.le_refl _)⟩ (schoolAt_some hT hw1 hi) ?_
    refine Ev.astore rfl rfl rfl ?_
    refine Ev.aloadN rfl rfl ?_
    refine Ev.ifnullN (tgt := 37) rfl (by decide) ?_
    refine Ev.iconst (v := (-1)) rfl (by decide) ?_
    refine Ev.iret (ty := .int) rfl rfl rfl (Nat.le_refl _) (Nat.le_refl _) ?_
    rw [← hQ]
    exact ⟨rfl, rfl⟩
theorem beside_none (hX : isX σ x) (hT : isT σ (x + 1) T) (hw : wT T) {u v : Int32} (hg : ¬ ∃ i j, gd T u v i j) (k l : Int32) : RetV Γ m_SD_beside [.ref x, .int u, .int v, .int k, .int l] σ (.int (-2)) := by
  unfold isX at hX
  obtain ⟨t0, t1, ⟨fs, t2, t3⟩, ⟨fp, t4, t5⟩, t6, t7⟩ := id hT
  unfold RetV
  generalize hQ : (fun (r : Option Value) (σ' : ex_S) => r = some ((.int (-2)) : Value) ∧ σ' = σ) = Q
  refine Ret.start pm_26 rfl ?_
  have hw1 := hw.2.1
  rcases ix_cases u (n := tSn T) (by omega) with hu | hu | ⟨i, hi, rfl⟩
  · skip
    refine Ev.aload_n rfl rfl ?_
    refine Ev.iload_n rfl rfl ?_
    refine Ev.iload_n rfl rfl ?_
    refine Ev.cV2 rfl rfl (by assumption) rfl rfl (by decide) ⟨(Nat.le_refl _), (Nat.le_refl _)⟩ (going_none hX hT hw hg) ?_
    refine Ev.astoreN rfl rfl rfl ?_
    refine Ev.aload_n rfl rfl ?_
    refine Ev.getf rfl rfl (by assumption) rfl ?_
    refine Ev.iload_n rfl rfl ?_
    refine Ev.cV1 rfl rfl (by assumption) rfl rfl (by decide) ⟨(Nat.le_refl _), (Nat.le_refl _)⟩ (schoolAt_none hT (Or.inl hu)) ?_
    refine Ev.astoreN rfl rfl rfl ?_
    refine Ev.aloadN rfl rfl ?_
    refine Ev.iload_n rfl rfl ?_
    refine Ev.cS2 rfl rfl rfl (by decide) ⟨(Nat.le_refl _), (Nat.le_refl _)⟩ (lessonOf_null _) ?_
    refine Ev.astoreN rfl rfl rfl ?_
    refine Ev.aloadN rfl rfl ?_
    refine Ev.ifnullN (tgt := 49) rfl (by decide) ?_
    refine Ev.bipush (v := (-2)) rfl (by decide) ?_
    refine Ev.iret (ty := .int) rfl rfl rfl (Nat.le_refl _) (Nat.le_refl _) ?_
    rw [← hQ]
    exact ⟨rfl, rfl⟩
  · skip
    refine Ev.aload_n rfl rfl ?_
    refine Ev.iload_n rfl rfl ?_
    refine Ev.iload_n rfl rfl ?_
    refine Ev.cV2 rfl rfl (by assumption) rfl rfl (by decide) ⟨(Nat.le_refl _), (Nat.le_refl _)⟩ (going_none hX hT hw hg) ?_
    refine Ev.astoreN rfl rfl rfl ?_
    refine Ev.aload_n rfl rfl ?_
    refine Ev.getf rfl rfl (by assumption) rfl ?_
    refine Ev.iload_n rfl rfl ?_
    refine Ev.cV1 rfl rfl (by assumption) rfl rfl (by decide) ⟨(Nat.le_refl _), (Nat.le_refl _)⟩ (schoolAt_none hT (Or.inr hu)) ?_
    refine Ev.astoreN rfl rfl rfl ?_
    refine Ev.aloadN rfl rfl ?_
    refine Ev.iload_n rfl rfl ?_
    refine Ev.cS2 rfl rfl rfl (by decide) ⟨(Nat.le_refl _), (Nat.le_refl _)⟩ (lessonOf_null _) ?_
    refine Ev.astoreN rfl rfl rfl ?_
    refine Ev.aloadN rfl rfl ?_
    refine Ev.ifnullN (tgt := 49) rfl (by decide) ?_
    refine Ev.bipush (v := (-2)) rfl (by decide) ?_
    refine Ev.iret (ty := .int) rfl rfl rfl (Nat.le_refl _) (Nat.le_refl _) ?_
    rw [← hQ]
    exact ⟨rfl, rfl⟩
  · skip
    refine Ev.aload_n rfl rfl ?_
    refine Ev.iload_n rfl rfl ?_
    refine Ev.iload_n rfl rfl ?_
    refine Ev.cV2 rfl rfl (by assumption) rfl rfl (by decide) ⟨(Nat.le_refl _), (Nat.le_refl _)⟩ (going_none hX hT hw hg) ?_
    refine Ev.astoreN rfl rfl rfl ?_
    refine Ev.aload_n rfl rfl ?_
    refine Ev.getf rfl rfl (by assumption) rfl ?_
    refine Ev.iload_n rfl rfl ?_
    refine Ev.cV1 rfl rfl (by assumption) rfl rfl (by decide) ⟨(Nat.le_refl _), (Nat.le_refl _)⟩ (schoolAt_some hT hw1 hi) ?_
    refine Ev.astore rfl rfl rfl ?_
    refine Ev.aloadN rfl rfl ?_
    refine Ev.iload_n rfl rfl ?_
    refine Ev.cS2 rfl rfl rfl (by decide) ⟨(Nat.le_refl _), (Nat.le_refl _)⟩ (lessonOf_null _) ?_
    refine Ev.astoreN rfl rfl rfl ?_
    refine Ev.aload rfl rfl ?_
    refine Ev.ifnull rfl ?_
    refine Ev.aloadN rfl rfl ?_
    refine Ev.ifnullN (tgt := 49) rfl (by decide) ?_
    refine Ev.bipush (v := (-2)) rfl (by decide) ?_
    refine Ev.iret (ty := .int) rfl rfl rfl (Nat.le_refl _) (Nat.le_refl _) ?_
    rw [← hQ]
    exact ⟨rfl, rfl⟩
theorem fills_none (hX : isX σ x) (hT : isT σ (x + 1) T) (hw : wT T) {u : Int32} (hg : u < 0 ∨ nI (tSn T) ≤ u) (b : Int32) : RetV Γ m_SD_fills [.ref x, .int u, .int b] σ (.int (-1)) := by
  unfold isX at hX
  obtain ⟨t0, t1, ⟨fs, t2, t3⟩, ⟨fp, t4, t5⟩, t6, t7⟩ := id hT
  unfold RetV
  generalize hQ : (fun (r : Option Value) (σ' : ex_S) => r = some ((.int (-1)) : Value) ∧ σ' = σ) = Q
  refine Ret.start pm_23 rfl ?_
  refine Ev.aload_n rfl rfl ?_
  refine Ev.getf rfl rfl (by assumption) rfl ?_
  refine Ev.iload_n rfl rfl ?_
  refine Ev.cV1 rfl rfl (by assumption) rfl rfl (by decide) ⟨(Nat.le_refl _), (Nat.le_refl _)⟩ (schoolAt_none hT hg) ?_
  refine Ev.astore_nN rfl rfl rfl ?_
  refine Ev.aload_nN rfl rfl ?_
  refine Ev.ifnullN (tgt := 20) rfl (by decide) ?_
  refine Ev.iconst (v := (-1)) rfl (by decide) ?_
  refine Ev.iret (ty := .int) rfl rfl rfl (Nat.le_refl _) (Nat.le_refl _) ?_
  rw [← hQ]
  exact ⟨rfl, rfl⟩
theorem about_none (hX : isX σ x) (hT : isT σ (x + 1) T) (hw : wT T) {u : Int32} (hg : u < 0 ∨ nI (tSn T) ≤ u) (w : Int32) : RetV Γ m_SD_about [.ref x, .int u, .int w] σ (.int (-1)) := by
  unfold isX at hX
  obtain ⟨t0, t1, ⟨fs, t2, t3⟩, ⟨fp, t4, t5⟩, t6, t7⟩ := id hT
  unfold RetV
  generalize hQ : (fun (r : Option Value) (σ' : ex_S) => r = some ((.int (-1)) : Value) ∧ σ' = σ) = Q
  refine Ret.start pm_6 rfl ?_
  refine Ev.aload_n rfl rfl ?_
  refine Ev.getf rfl rfl (by assumption) rfl ?_
  refine Ev.iload_n rfl rfl ?_
  refine Ev.cV1 rfl rfl (by assumption) rfl rfl (by decide) ⟨(Nat.le_refl _), (Nat.le_refl _)⟩ (schoolAt_none hT hg) ?_
  refine Ev.astore_nN rfl rfl rfl ?_
  refine Ev.aload_nN rfl rfl ?_
  refine Ev.ifnonnullN rfl ?_
  refine Ev.iconst (v := (-1)) rfl (by decide) ?_
  refine Ev.goto (tgt := 22) rfl (by decide) ?_
  refine Ev.iret (ty := .int) rfl rfl rfl (Nat.le_refl _) (Nat.le_refl _) ?_
  rw [← hQ]
  exact ⟨rfl, rfl⟩
theorem line_none (hX : isX σ x) (hT : isT σ (x + 1) T) (hw : wT T) {u : Int32} (hg : u < 0 ∨ nI (tSn T) ≤ u) (k w : Int32) : RetV Γ m_SD_line [.ref x, .int u, .int k, .int w] σ (.int (-1)) := by
  unfold isX at hX
  obtain ⟨t0, t1, ⟨fs, t2, t3⟩, ⟨fp, t4, t5⟩, t6, t7⟩ := id hT
  unfold RetV
  generalize hQ : (fun (r : Option Value) (σ' : ex_S) => r = some ((.int (-1)) : Value) ∧ σ' = σ) = Q
  refine Ret.start pm_16 rfl ?_
  refine Ev.aload_n rfl rfl ?_
  refine Ev.getf rfl rfl (by assumption) rfl ?_
  refine Ev.iload_n rfl rfl ?_
  refine Ev.cV1 rfl rfl (by assumption) rfl rfl (by decide) ⟨(Nat.le_refl _), (Nat.le_refl _)⟩ (schoolAt_none hT hg) ?_
  refine Ev.astoreN rfl rfl rfl ?_
  refine Ev.aloadN rfl rfl ?_
  refine Ev.ifnullN (tgt := 26) rfl (by decide) ?_
  refine Ev.iconst (v := (-1)) rfl (by decide) ?_
  refine Ev.iret (ty := .int) rfl rfl rfl (Nat.le_refl _) (Nat.le_refl _) ?_
  rw [← hQ]
  exact ⟨rfl, rfl⟩
theorem m_seats_none (hM : isM σ y g A) (hT : mT A 0 T) (hw : wT T) {u v : Int32} (hg : ¬ ∃ i j, gd T u v i j) (w : Int32) : RetV Γ m_M_seats [.ref y, .int u, .int v, .int w] σ (.int (-2)) := by
  obtain ⟨m0, m1⟩ := id hM
  unfold RetV
  generalize hQ : (fun (r : Option Value) (σ' : ex_S) => r = some ((.int (-2)) : Value) ∧ σ' = σ) = Q
  refine Ret.start pm_231 rfl ?_
  refine Ev.aload_n rfl rfl ?_
  refine Ev.iload_n rfl rfl ?_
  refine Ev.iload_n rfl rfl ?_
  refine Ev.cV2 rfl rfl (by assumption) rfl rfl (by decide) ⟨(Nat.le_refl _), (Nat.le_refl _)⟩ (m_goes_no hM hT hw hg) ?_
  refine Ev.if_ne (tgt := 12) rfl (by decide) (fun c6 => absurd rfl c6) (fun c6 => ?_)
  refine Ev.bipush (v := (-2)) rfl (by decide) ?_
  refine Ev.iret (ty := .int) rfl rfl rfl (Nat.le_refl _) (Nat.le_refl _) ?_
  rw [← hQ]
  exact ⟨rfl, rfl⟩
theorem m_ill_none (hM : isM σ y g A) (hT : mT A 0 T) (hw : wT T) {u v : Int32} (hg : ¬ ∃ i j, gd T u v i j) (t : Int32) : RetV Γ m_M_ill [.ref y, .int u, .int v, .int t] σ (.int (-1)) := by
  obtain ⟨m0, m1⟩ := id hM
  unfold RetV
  generalize hQ : (fun (r : Option Value) (σ' : ex_S) => r = some ((.int (-1)) : Value) ∧ σ' = σ) = Q
  refine Ret.start pm_242 rfl ?_
  refine Ev.aload_n rfl rfl ?_
  refine Ev.iload_n rfl rfl ?_
  refine Ev.iload_n rfl rfl ?_
  refine Ev.cV2 rfl rfl (by assumption) rfl rfl (by decide) ⟨(Nat.le_refl _), (Nat.le_refl _)⟩ (m_goes_no hM hT hw hg) ?_
  refine Ev.if_eq (tgt := 31) rfl (by decide) (fun c6 => ?_) (fun c6 => absurd rfl c6)
  refine Ev.iconst (v := (-1)) rfl (by decide) ?_
  refine Ev.iret (ty := .int) rfl rfl rfl (Nat.le_refl _) (Nat.le_refl _) ?_
  rw [← hQ]
  exact ⟨rfl, rfl⟩
theorem m_fills_none (hM : isM σ y g A) (hT : mT A 0 T) (hw : wT T) {u : Int32} (hg : u < 0 ∨ nI (tSn T) ≤ u) (b : Int32) : RetV Γ m_M_fills [.ref y, .int u, .int b] σ (.int (-1)) := by
  obtain ⟨m0, m1⟩ := id hM
  unfold RetV
  generalize hQ : (fun (r : Option Value) (σ' : ex_S) => r = some ((.int (-1)) : Value) ∧ σ' = σ) = Q
  refine Ret.start pm_244 rfl ?_
  refine Ev.aload_n rfl rfl ?_
  refine Ev.iconst (v := 0) rfl (by decide) ?_
  refine Ev.iload_n rfl rfl ?_
  refine Ev.cV2 rfl rfl (by assumption) rfl rfl (by decide) ⟨(Nat.le_refl _), (Nat.le_refl _)⟩ (m_isOf0_no hM hT hw hg) ?_
  refine Ev.if_eq (tgt := 22) rfl (by decide) (fun c6 => ?_) (fun c6 => absurd rfl c6)
  refine Ev.iconst (v := (-1)) rfl (by decide) ?_
  refine Ev.iret (ty := .int) rfl rfl rfl (Nat.le_refl _) (Nat.le_refl _) ?_
  rw [← hQ]
  exact ⟨rfl, rfl⟩
theorem m_about_none (hM : isM σ y g A) (hT : mT A 0 T) (hw : wT T) {u : Int32} (hg : u < 0 ∨ nI (tSn T) ≤ u) (w : Int32) : RetV Γ m_M_about [.ref y, .int u, .int w] σ (.int (-1)) := by
  obtain ⟨m0, m1⟩ := id hM
  unfold RetV
  generalize hQ : (fun (r : Option Value) (σ' : ex_S) => r = some ((.int (-1)) : Value) ∧ σ' = σ) = Q
  refine Ret.start pm_193 rfl ?_
  refine Ev.aload_n rfl rfl ?_
  refine Ev.iconst (v := 0) rfl (by decide) ?_
  refine Ev.iload_n rfl rfl ?_
  refine Ev.cV2 rfl rfl (by assumption) rfl rfl (by decide) ⟨(Nat.le_refl _), (Nat.le_refl _)⟩ (m_isOf0_no hM hT hw hg) ?_
  refine Ev.if_ne (tgt := 11) rfl (by decide) (fun c6 => absurd rfl c6) (fun c6 => ?_)
  refine Ev.iconst (v := (-1)) rfl (by decide) ?_
  refine Ev.iret (ty := .int) rfl rfl rfl (Nat.le_refl _) (Nat.le_refl _) ?_
  rw [← hQ]
  exact ⟨rfl, rfl⟩
theorem m_line_none (hM : isM σ y g A) (hT : mT A 0 T) (hw : wT T) {u : Int32} (hg : u < 0 ∨ nI (tSn T) ≤ u) (k w : Int32) : RetV Γ m_M_line [.ref y, .int u, .int k, .int w] σ (.int (-1)) := by
  obtain ⟨m0, m1⟩ := id hM
  unfold RetV
  generalize hQ : (fun (r : Option Value) (σ' : ex_S) => r = some ((.int (-1)) : Value) ∧ σ' = σ) = Q
  refine Ret.start pm_227 rfl ?_
  refine Ev.aload_n rfl rfl ?_
  refine Ev.iconst (v := 0) rfl (by decide) ?_
  refine Ev.iload_n rfl rfl ?_
  refine Ev.cV2 rfl rfl (by assumption) rfl rfl (by decide) ⟨(Nat.le_refl _), (Nat.le_refl _)⟩ (m_isOf0_no hM hT hw hg) ?_
  refine Ev.if_eq (tgt := 19) rfl (by decide) (fun c6 => ?_) (fun c6 => absurd rfl c6)
  refine Ev.iconst (v := (-1)) rfl (by decide) ?_
  refine Ev.iret (ty := .int) rfl rfl rfl (Nat.le_refl _) (Nat.le_refl _) ?_
  rw [← hQ]
  exact ⟨rfl, rfl⟩
end
end
