/-! test, whom, lonely on both sides. -/
noncomputable section
theorem fin3 : ((3 : Fin 4) : Nat) = 3 := rfl
theorem fin2 : ((2 : Fin 4) : Nat) = 2 := rfl
theorem F_whom_lt (S : Sch) (P : Pln) (l : Nat) (z : Int32 × Int32) : F_whom S P l z = if z.1 < K_te S P l then (K_te S P l, nI l) else z := by
  unfold F_whom
  by_cases h : K_te S P l ≤ z.1
  · rw [if_pos h, if_neg (fun q => gt_le.mpr q h)]
  · rw [if_neg h, if_pos (gt_le.mp h)]
section
variable {Γ : ex_G} {σ : ex_S} {x q a p y : Nat} {S : Sch} {T : Tol} {P : Pln} {g A : Nat → Int32}
theorem test_some (hX : isX σ x) (hT : isT σ (x + 1) T) (hw : wT T) {u v : Int32} {i j : Nat} (hg : gd T u v i j) (l : Int32) : RetV Γ m_SD_test [.ref x, .int u, .int v, .int l] σ (.int (K_test (tS T i) (tP T j) l)) := by
  unfold isX at hX
  obtain ⟨t0, t1, ⟨fs, t2, t3⟩, ⟨fp, t4, t5⟩, t6, t7⟩ := id hT
  unfold RetV
  generalize hQ : (fun (r : Option Value) (σ' : ex_S) => r = some ((.int (K_test (tS T i) (tP T j) l)) : Value) ∧ σ' = σ) = Q
  refine Ret.start pm_19 rfl ?_
  obtain ⟨rfl, hi, rfl, hj, hgo⟩ := hg
  have hw1 := hw.2.1
  have hw2 := hw.2.2.1
  have hwS := hw.2.2.2.1 i hi
  have hwP := hw.2.2.2.2 j hj
  have hn16 := hwS.1
  have hn5 := hwS.2.1
  have h6 := hwP.1
  have hSi := t6 i (by omega)
  have hPj := t7 j (by omega)
  have hokL : ∀ k, k < (tP T j).1 → okL (tS T i) ((tP T j).2 k) := fun k hk => goT_okL hwS (hgo k hk).1
  obtain ⟨h0, h1, h2, h3, h4, h5, h6', h7, h8, h9, h10⟩ := id hSi
  obtain ⟨p0, ⟨pf, p1, p2⟩, p3⟩ := id hPj
  rcases ix_c2 l (tS T i).1 (by omega) with hl | ⟨l, hl, rfl⟩
  · skip
    refine Ev.aload_n rfl rfl ?_
    refine Ev.iload_n rfl rfl ?_
    refine Ev.iload_n rfl rfl ?_
    refine Ev.cV2 rfl rfl (by assumption) rfl rfl (by decide) ⟨(Nat.le_refl _), (Nat.le_refl _)⟩ (going_some hX hT hw ⟨rfl, hi, rfl, hj, hgo⟩) ?_
    refine Ev.astore rfl rfl rfl ?_
    refine Ev.aload_n rfl rfl ?_
    refine Ev.getf rfl rfl (by assumption) rfl ?_
    refine Ev.iload_n rfl rfl ?_
    refine Ev.cV1 rfl rfl (by assumption) rfl rfl (by decide) ⟨(Nat.le_refl _), (Nat.le_refl _)⟩ (schoolAt_some hT hw1 hi) ?_
    refine Ev.astore rfl rfl rfl ?_
    refine Ev.aload rfl rfl ?_
    refine Ev.ifnull rfl ?_
    refine Ev.aload rfl rfl ?_
    refine Ev.ifnull rfl ?_
    refine Ev.aload rfl rfl ?_
    refine Ev.iload_n rfl rfl ?_
    refine Ev.cV1 rfl rfl (by assumption) rfl rfl (by decide) ⟨(Nat.le_refl _), (Nat.le_refl _)⟩ (has_ok hSi _) ?_
    rw [has_no hl]
    refine Ev.if_ne (tgt := 41) rfl (by decide) (fun c34 => absurd rfl c34) (fun c34 => ?_)
    refine Ev.iconst (v := (-1)) rfl (by decide) ?_
    refine Ev.goto (tgt := 49) rfl (by decide) ?_
    refine Ev.iret (ty := .int) rfl rfl rfl (Nat.le_refl _) (Nat.le_refl _) ?_
    rw [← hQ]
    exact ⟨by simp [K_test, ixd_none hl], rfl⟩
  · skip
    refine Ev.aload_n rfl rfl ?_
    refine Ev.iload_n rfl rfl ?_
    refine Ev.iload_n rfl rfl ?_
    refine Ev.cV2 rfl rfl (by assumption) rfl rfl (by decide) ⟨(Nat.le_refl _), (Nat.le_refl _)⟩ (going_some hX hT hw ⟨rfl, hi, rfl, hj, hgo⟩) ?_
    refine Ev.astore rfl rfl rfl ?_
    refine Ev.aload_n rfl rfl ?_
    refine Ev.getf rfl rfl (by assumption) rfl ?_
    refine Ev.iload_n rfl rfl ?_
    refine Ev.cV1 rfl rfl (by assumption) rfl rfl (by decide) ⟨(Nat.le_refl _), (Nat.le_refl _)⟩ (schoolAt_some hT hw1 hi) ?_
    refine Ev.astore rfl rfl rfl ?_
    refine Ev.aload rfl rfl ?_
    refine Ev.ifnull rfl ?_
    refine Ev.aload rfl rfl ?_
    refine Ev.ifnull rfl ?_
    refine Ev.aload rfl rfl ?_
    refine Ev.iload_n rfl rfl ?_
    refine Ev.cV1 rfl rfl (by assumption) rfl rfl (by decide) ⟨(Nat.le_refl _), (Nat.le_refl _)⟩ (has_ok hSi _) ?_
    rw [has_yes hl hn16]
    refine Ev.if_ne (tgt := 41) rfl (by decide) (fun c34 => ?_) (fun c34 => absurd c34 (by decide))
    refine Ev.aload rfl rfl ?_
    refine Ev.aload rfl rfl ?_
    refine Ev.iload_n rfl rfl ?_
    refine Ev.cS3 rfl rfl rfl (by decide) ⟨(Nat.le_refl _), (Nat.le_refl _)⟩ (testOf_ok hSi hPj h6 l (by omega) hokL hn5) ?_
    refine Ev.iret (ty := .int) rfl rfl rfl (Nat.le_refl _) (Nat.le_refl _) ?_
    rw [← hQ]
    exact ⟨by simp [K_test, ixd_some hl (by omega : (tS T i).1 < 2 ^ 31)], rfl⟩
theorem test_none (hX : isX σ x) (hT : isT σ (x + 1) T) (hw : wT T) {u v : Int32} (hg : ¬ ∃ i j, gd T u v i j) (l : Int32) : RetV Γ m_SD_test [.ref x, .int u, .int v, .int l] σ (.int (-1)) := by
  unfold isX at hX
  obtain ⟨t0, t1, ⟨fs, t2, t3⟩, ⟨fp, t4, t5⟩, t6, t7⟩ := id hT
  unfold RetV
  generalize hQ : (fun (r : Option Value) (σ' : ex_S) => r = some ((.int (-1)) : Value) ∧ σ' = σ) = Q
  refine Ret.start pm_19 rfl ?_
  have hw1 := hw.2.1
  rcases ix_cases u (n := tSn T) (by omega) with hu | hu | ⟨i, hi, rfl⟩
  · skip
    refine Ev.aload_n rfl rfl ?_
    refine Ev.iload_n rfl rfl ?_
    refine Ev.iload_n rfl rfl ?_
    refine Ev.cV2 rfl rfl (by assumption) rfl rfl (by decide) ⟨(Nat.le_refl _), (Nat.le_refl _)⟩ (going_none hX hT hw hg) ?_
    refine Ev.astoreN rfl rfl rfl ?_
    refine Ev.aload_n rfl rfl ?_
    refine Ev.getf rfl rfl (by assumption) rfl ?_
    refine Ev.iload_n rfl rfl ?_
    refine Ev.cV1 rfl rfl (by assumption) rfl rfl (by decide) ⟨(Nat.le_refl _), (Nat.le_refl _)⟩ (schoolAt_none hT (Or.inl hu)) ?_
    refine Ev.astoreN rfl rfl rfl ?_
    refine Ev.aloadN rfl rfl ?_
    refine Ev.ifnullN (tgt := 37) rfl (by decide) ?_
    refine Ev.iconst (v := (-1)) rfl (by decide) ?_
    refine Ev.goto (tgt := 49) rfl (by decide) ?_
    refine Ev.iret (ty := .int) rfl rfl rfl (Nat.le_refl _) (Nat.le_refl _) ?_
    rw [← hQ]
    exact ⟨rfl, rfl⟩
  · skip
    refine Ev.aload_n rfl rfl ?_
    refine Ev.iload_n rfl rfl ?_
    refine Ev.iload_n rfl rfl ?_
    refine Ev.cV2 rfl rfl (by assumption) rfl rfl (by decide) ⟨(Nat.le_refl _), (Nat.le_refl _)⟩ (going_none hX hT hw hg) ?_
    refine Ev.astoreN rfl rfl rfl ?_
    refine Ev.aload_n rfl rfl ?_
    refine Ev.getf rfl rfl (by assumption) rfl ?_
    refine Ev.iload_n rfl rfl ?_
    refine Ev.cV1 rfl rfl (by assumption) rfl rfl (by decide) ⟨(Nat.le_refl _), (Nat.le_refl _)⟩ (schoolAt_none hT (Or.inr hu)) ?_
    refine Ev.astoreN rfl rfl rfl ?_
    refine Ev.aloadN rfl rfl ?_
    refine Ev.ifnullN (tgt := 37) rfl (by decide) ?_
    refine Ev.iconst (v := (-1)) rfl (by decide) ?_
    refine Ev.goto (tgt := 49) rfl (by decide) ?_
    refine Ev.iret (ty := .int) rfl rfl rfl (Nat.le_refl _) (Nat.le_refl _) ?_
    rw [← hQ]
    exact ⟨rfl, rfl⟩
  · skip
    refine Ev.aload_n rfl rfl ?_
    refine Ev.iload_n rfl rfl ?_
    refine Ev.iload_n rfl rfl ?_
    refine Ev.cV2 rfl rfl (by assumption) rfl rfl (by decide) ⟨(Nat.le_refl _), (Nat.le_refl _)⟩ (going_none hX hT hw hg) ?_
    refine Ev.astoreN rfl rfl rfl ?_
    refine Ev.aload_n rfl rfl ?_
    refine Ev.getf rfl rfl (by assumption) rfl ?_
    refine Ev.iload_n rfl rfl ?_
    refine Ev.cV1 rfl rfl (by assumption) rfl rfl (by decide) ⟨(Nat.le_refl _), (Nat.le_refl _)⟩ (schoolAt_some hT hw1 hi) ?_
    refine Ev.astore rfl rfl rfl ?_
    refine Ev.aloadN rfl rfl ?_
    refine Ev.ifnullN (tgt := 37) rfl (by decide) ?_
    refine Ev.iconst (v := (-1)) rfl (by decide) ?_
    refine Ev.goto (tgt := 49) rfl (by decide) ?_
    refine Ev.iret (ty := .int) rfl rfl rfl (Nat.le_refl _) (Nat.le_refl _) ?_
    rw [← hQ]
    exact ⟨rfl, rfl⟩
theorem m_test_some (hM : isM σ y g A) (hT : mT A 0 T) (hw : wT T) {u v : Int32} {i j : Nat} (hg : gd T u v i j) (l : Int32) : RetV Γ m_M_test [.ref y, .int u, .int v, .int l] σ (.int (K_test (tS T i) (tP T j) l)) := by
  obtain ⟨m0, m1⟩ := id hM
  unfold RetV
  generalize hQ : (fun (r : Option Value) (σ' : ex_S) => r = some ((.int (K_test (tS T i) (tP T j) l)) : Value) ∧ σ' = σ) = Q
  refine Ret.start pm_235 rfl ?_
  have hgd := hg
  obtain ⟨rfl, hi, rfl, hj, hgo⟩ := hg
  have hi3 : i < 3 := by have := hw.2.1; omega
  have hj3 : j < 3 := by have := hw.2.2.1; omega
  have hwS := hw.2.2.2.1 i hi
  have hwP := hw.2.2.2.2 j hj
  have hn16 := hwS.1
  have hn5 := hwS.2.1
  have h6 := hwP.1
  have hS := hT.s hi
  have hP := hT.p hj
  have hs : 610 + 120 * i + 120 ≤ 4500 := by omega
  rcases ix_c2 l (tS T i).1 (by omega) with hl | ⟨l, hl, rfl⟩
  · skip
    refine Ev.aload_n rfl rfl ?_
    refine Ev.iload_n rfl rfl ?_
    refine Ev.iload_n rfl rfl ?_
    refine Ev.cV2 rfl rfl (by assumption) rfl rfl (by decide) ⟨(Nat.le_refl _), (Nat.le_refl _)⟩ (m_goes_yes hM hT hw hgd) ?_
    refine Ev.if_eq (tgt := 32) rfl (by decide) (fun c6 => absurd c6 (by decide)) (fun c6 => ?_)
    refine Ev.aload_n rfl rfl ?_
    refine Ev.iload_n rfl rfl ?_
    refine Ev.iload_n rfl rfl ?_
    refine Ev.cV2 rfl rfl (by assumption) rfl rfl (by decide) ⟨(Nat.le_refl _), (Nat.le_refl _)⟩ (m_isLearner_no hM hT hw hi hl) ?_
    refine Ev.if_eq (tgt := 32) rfl (by decide) (fun c15 => ?_) (fun c15 => absurd rfl c15)
    refine Ev.iconst (v := (-1)) rfl (by decide) ?_
    refine Ev.iret (ty := .int) rfl rfl rfl (Nat.le_refl _) (Nat.le_refl _) ?_
    rw [← hQ]
    exact ⟨by simp [K_test, ixd_none hl], rfl⟩
  · skip
    refine Ev.aload_n rfl rfl ?_
    refine Ev.iload_n rfl rfl ?_
    refine Ev.iload_n rfl rfl ?_
    refine Ev.cV2 rfl rfl (by assumption) rfl rfl (by decide) ⟨(Nat.le_refl _), (Nat.le_refl _)⟩ (m_goes_yes hM hT hw hgd) ?_
    refine Ev.if_eq (tgt := 32) rfl (by decide) (fun c6 => absurd c6 (by decide)) (fun c6 => ?_)
    refine Ev.aload_n rfl rfl ?_
    refine Ev.iload_n rfl rfl ?_
    refine Ev.iload_n rfl rfl ?_
    refine Ev.cV2 rfl rfl (by assumption) rfl rfl (by decide) ⟨(Nat.le_refl _), (Nat.le_refl _)⟩ (m_isLearner_yes hM hT hw hi hl) ?_
    refine Ev.if_eq (tgt := 32) rfl (by decide) (fun c15 => absurd c15 (by decide)) (fun c15 => ?_)
    refine Ev.aload_n rfl rfl ?_
    refine Ev.iconst (v := 0) rfl (by decide) ?_
    refine Ev.iload_n rfl rfl ?_
    refine Ev.cS2 rfl rfl rfl (by decide) ⟨(Nat.le_refl _), (Nat.le_refl _)⟩ (m_pl0_ok i) ?_
    refine Ev.iload_n rfl rfl ?_
    refine Ev.iload_n rfl rfl ?_
    refine Ev.cV3 rfl rfl (by assumption) rfl rfl (by decide) ⟨(Nat.le_refl _), (Nat.le_refl _)⟩ (m_testOf_ok hM hS hs hwS hP hj3 hwP hgo l hl) ?_
    refine Ev.goto (tgt := 33) rfl (by decide) ?_
    refine Ev.iret (ty := .int) rfl rfl rfl (Nat.le_refl _) (Nat.le_refl _) ?_
    rw [← hQ]
    exact ⟨by simp [K_test, ixd_some hl (by omega : (tS T i).1 < 2 ^ 31)], rfl⟩
theorem m_test_none (hM : isM σ y g A) (hT : mT A 0 T) (hw : wT T) {u v : Int32} (hg : ¬ ∃ i j, gd T u v i j) (l : Int32) : RetV Γ m_M_test [.ref y, .int u, .int v, .int l] σ (.int (-1)) := by
  obtain ⟨m0, m1⟩ := id hM
  unfold RetV
  generalize hQ : (fun (r : Option Value) (σ' : ex_S) => r = some ((.int (-1)) : Value) ∧ σ' = σ) = Q
  refine Ret.start pm_235 rfl ?_
  refine Ev.aload_n rfl rfl ?_
  refine Ev.iload_n rfl rfl ?_
  refine Ev.iload_n rfl rfl ?_
  refine Ev.cV2 rfl rfl (by assumption) rfl rfl (by decide) ⟨(Nat.le_refl _), (Nat.le_refl _)⟩ (m_goes_no hM hT hw hg) ?_
  refine Ev.if_eq (tgt := 32) rfl (by decide) (fun c6 => ?_) (fun c6 => absurd rfl c6)
  refine Ev.iconst (v := (-1)) rfl (by decide) ?_
  refine Ev.iret (ty := .int) rfl rfl rfl (Nat.le_refl _) (Nat.le_refl _) ?_
  rw [← hQ]
  exact ⟨rfl, rfl⟩
theorem whom_some (hX : isX σ x) (hT : isT σ (x + 1) T) (hw : wT T) {u v : Int32} {i j : Nat} (hg : gd T u v i j) : RetV Γ m_SD_whom [.ref x, .int u, .int v] σ (.int (K_whom (tS T i) (tP T j))) := by
  unfold isX at hX
  obtain ⟨t0, t1, ⟨fs, t2, t3⟩, ⟨fp, t4, t5⟩, t6, t7⟩ := id hT
  unfold RetV
  generalize hQ : (fun (r : Option Value) (σ' : ex_S) => r = some ((.int (K_whom (tS T i) (tP T j))) : Value) ∧ σ' = σ) = Q
  refine Ret.start pm_20 rfl ?_
  obtain ⟨rfl, hi, rfl, hj, hgo⟩ := hg
  have hw1 := hw.2.1
  have hw2 := hw.2.2.1
  have hwS := hw.2.2.2.1 i hi
  have hwP := hw.2.2.2.2 j hj
  have hn16 := hwS.1
  have hn5 := hwS.2.1
  have h6 := hwP.1
  have hSi := t6 i (by omega)
  have hPj := t7 j (by omega)
  have hokL : ∀ k, k < (tP T j).1 → okL (tS T i) ((tP T j).2 k) := fun k hk => goT_okL hwS (hgo k hk).1
  obtain ⟨h0, h1, h2, h3, h4, h5, h6', h7, h8, h9, h10⟩ := id hSi
  obtain ⟨p0, ⟨pf, p1, p2⟩, p3⟩ := id hPj
  refine Ev.aload_n rfl rfl ?_
  refine Ev.iload_n rfl rfl ?_
  refine Ev.iload_n rfl rfl ?_
  refine Ev.cV2 rfl rfl (by assumption) rfl rfl (by decide) ⟨(Nat.le_refl _), (Nat.le_refl _)⟩ (going_some hX hT hw ⟨rfl, hi, rfl, hj, hgo⟩) ?_
  refine Ev.astore_n rfl rfl rfl ?_
  refine Ev.aload_n rfl rfl ?_
  refine Ev.getf rfl rfl (by assumption) rfl ?_
  refine Ev.iload_n rfl rfl ?_
  refine Ev.cV1 rfl rfl (by assumption) rfl rfl (by decide) ⟨(Nat.le_refl _), (Nat.le_refl _)⟩ (schoolAt_some hT hw1 hi) ?_
  refine Ev.astore rfl rfl rfl ?_
  refine Ev.aload_n rfl rfl ?_
  refine Ev.ifnull rfl ?_
  refine Ev.aload rfl rfl ?_
  refine Ev.ifnonnull (tgt := 28) rfl (by decide) ?_
  refine Ev.iconst (v := 0) rfl (by decide) ?_
  refine Ev.istore rfl rfl rfl ?_
  refine Ev.iconst (v := (-1)) rfl (by decide) ?_
  refine Ev.istore rfl rfl rfl ?_
  refine Ev.iconst (v := 0) rfl (by decide) ?_
  refine Ev.istore rfl rfl rfl ?_
  refine Ev.cg (L' := [some (.ref x), some (.int (nI i)), some (.int (nI j)), some (.ref (x + 1 + 15 + 19 * j)), some (.ref (x + 1 + 4 + 19 * i)), some (.int (((0 : Int32), (-1 : Int32))).1), some (.int (((0 : Int32), (-1 : Int32))).2), some (.int (nI 0)), none]) ?_ (by first | rfl | simp [nI_0])
  refine lp (fun k z => Ev Γ 0 0 m_SD_whom 0 0 37 [some (.ref x), some (.int (nI i)), some (.int (nI j)), some (.ref (x + 1 + 15 + 19 * j)), some (.ref (x + 1 + 4 + 19 * i)), some (.int (z).1), some (.int (z).2), some (.int (nI k)), none] [] σ Q) (F_whom (tS T i) (tP T j)) ((tS T i).1) (fun k z hi hnx => ?_) ((tS T i).1) 0 (((0 : Int32), (-1 : Int32))) (by omega) ?_
  · skip
    refine Ev.iload rfl rfl ?_
    refine Ev.aload rfl rfl ?_
    refine Ev.getf rfl rfl (by assumption) rfl ?_
    refine Ev.icmp_ge (tgt := 78) rfl (by decide) (fun c44 => absurd c44 (nI_ge hi (by omega))) (fun c44 => ?_)
    refine Ev.aload rfl rfl ?_
    refine Ev.aload_n rfl rfl ?_
    refine Ev.iload rfl rfl ?_
    refine Ev.cS3 rfl rfl rfl (by decide) ⟨(Nat.le_refl _), (Nat.le_refl _)⟩ (testOf_ok hSi hPj h6 k (by omega) hokL hn5) ?_
    refine Ev.istore rfl rfl rfl ?_
    refine Ev.iload rfl rfl ?_
    refine Ev.iload rfl rfl ?_
    refine Ev.icmp_le (tgt := 72) rfl (by decide) (fun c61 => ?_) (fun c61 => ?_)
    · skip
      refine Ev.iinc (d := 1) rfl rfl rfl (by decide) rfl ?_
      refine Ev.goto (tgt := 37) rfl (by decide) ?_
      exact hnx.fg (by simp [ex_ge, nI_1, F_whom, *])
    · skip
      refine Ev.iload rfl rfl ?_
      refine Ev.istore rfl rfl rfl ?_
      refine Ev.iload rfl rfl ?_
      refine Ev.istore rfl rfl rfl ?_
      refine Ev.iinc (d := 1) rfl rfl rfl (by decide) rfl ?_
      refine Ev.goto (tgt := 37) rfl (by decide) ?_
      exact hnx.fg (by simp [ex_ge, nI_1, F_whom, *])
  · skip
    refine Ev.iload rfl rfl ?_
    refine Ev.aload rfl rfl ?_
    refine Ev.getf rfl rfl (by assumption) rfl ?_
    refine Ev.icmp_ge (tgt := 78) rfl (by decide) (fun c44 => ?_) (fun c44 => absurd (nI_le (Nat.le_refl _) (by omega)) c44)
    refine Ev.iload rfl rfl ?_
    refine Ev.iret (ty := .int) rfl rfl rfl (Nat.le_refl _) (Nat.le_refl _) ?_
    rw [← hQ]
    exact ⟨rfl, rfl⟩
theorem whom_none (hX : isX σ x) (hT : isT σ (x + 1) T) (hw : wT T) {u v : Int32} (hg : ¬ ∃ i j, gd T u v i j)  : RetV Γ m_SD_whom [.ref x, .int u, .int v] σ (.int (-1)) := by
  unfold isX at hX
  obtain ⟨t0, t1, ⟨fs, t2, t3⟩, ⟨fp, t4, t5⟩, t6, t7⟩ := id hT
  unfold RetV
  generalize hQ : (fun (r : Option Value) (σ' : ex_S) => r = some ((.int (-1)) : Value) ∧ σ' = σ) = Q
  refine Ret.start pm_20 rfl ?_
  have hw1 := hw.2.1
  rcases ix_cases u (n := tSn T) (by omega) with hu | hu | ⟨i, hi, rfl⟩
  · skip
    refine Ev.aload_n rfl rfl ?_
    refine Ev.iload_n rfl rfl ?_
    refine Ev.iload_n rfl rfl ?_
    refine Ev.cV2 rfl rfl (by assumption) rfl rfl (by decide) ⟨(Nat.le_refl _), (Nat.le_refl _)⟩ (going_none hX hT hw hg) ?_
    refine Ev.astore_nN rfl rfl rfl ?_
    refine Ev.aload_n rfl rfl ?_
    refine Ev.getf rfl rfl (by assumption) rfl ?_
    refine Ev.iload_n rfl rfl ?_
    refine Ev.cV1 rfl rfl (by assumption) rfl rfl (by decide) ⟨(Nat.le_refl _), (Nat.le_refl _)⟩ (schoolAt_none hT (Or.inl hu)) ?_
    refine Ev.astoreN rfl rfl rfl ?_
    refine Ev.aload_nN rfl rfl ?_
    refine Ev.ifnullN (tgt := 26) rfl (by decide) ?_
    refine Ev.iconst (v := (-1)) rfl (by decide) ?_
    refine Ev.iret (ty := .int) rfl rfl rfl (Nat.le_refl _) (Nat.le_refl _) ?_
    rw [← hQ]
    exact ⟨rfl, rfl⟩
  · skip
    refine Ev.aload_n rfl rfl ?_
    refine Ev.iload_n rfl rfl ?_
    refine Ev.iload_n rfl rfl ?_
    refine Ev.cV2 rfl rfl (by assumption) rfl rfl (by decide) ⟨(Nat.le_refl _), (Nat.le_refl _)⟩ (going_none hX hT hw hg) ?_
    refine Ev.astore_nN rfl rfl rfl ?_
    refine Ev.aload_n rfl rfl ?_
    refine Ev.getf rfl rfl (by assumption) rfl ?_
    refine Ev.iload_n rfl rfl ?_
    refine Ev.cV1 rfl rfl (by assumption) rfl rfl (by decide) ⟨(Nat.le_refl _), (Nat.le_refl _)⟩ (schoolAt_none hT (Or.inr hu)) ?_
    refine Ev.astoreN rfl rfl rfl ?_
    refine Ev.aload_nN rfl rfl ?_
    refine Ev.ifnullN (tgt := 26) rfl (by decide) ?_
    refine Ev.iconst (v := (-1)) rfl (by decide) ?_
    refine Ev.iret (ty := .int) rfl rfl rfl (Nat.le_refl _) (Nat.le_refl _) ?_
    rw [← hQ]
    exact ⟨rfl, rfl⟩
  · skip
    refine Ev.aload_n rfl rfl ?_
    refine Ev.iload_n rfl rfl ?_
    refine Ev.iload_n rfl rfl ?_
    refine Ev.cV2 rfl rfl (by assumption) rfl rfl (by decide) ⟨(Nat.le_refl _), (Nat.le_refl _)⟩ (going_none hX hT hw hg) ?_
    refine Ev.astore_nN rfl rfl rfl ?_
    refine Ev.aload_n rfl rfl ?_
    refine Ev.getf rfl rfl (by assumption) rfl ?_
    refine Ev.iload_n rfl rfl ?_
    refine Ev.cV1 rfl rfl (by assumption) rfl rfl (by decide) ⟨(Nat.le_refl _), (Nat.le_refl _)⟩ (schoolAt_some hT hw1 hi) ?_
    refine Ev.astore rfl rfl rfl ?_
    refine Ev.aload_nN rfl rfl ?_
    refine Ev.ifnullN (tgt := 26) rfl (by decide) ?_
    refine Ev.iconst (v := (-1)) rfl (by decide) ?_
    refine Ev.iret (ty := .int) rfl rfl rfl (Nat.le_refl _) (Nat.le_refl _) ?_
    rw [← hQ]
    exact ⟨rfl, rfl⟩
theorem m_whom_some (hM : isM σ y g A) (hT : mT A 0 T) (hw : wT T) {u v : Int32} {i j : Nat} (hg : gd T u v i j) : RetV Γ m_M_whom [.ref y, .int u, .int v] σ (.int (K_whom (tS T i) (tP T j))) := by
  obtain ⟨m0, m1⟩ := id hM
  unfold RetV
  generalize hQ : (fun (r : Option Value) (σ' : ex_S) => r = some ((.int (K_whom (tS T i) (tP T j))) : Value) ∧ σ' = σ) = Q
  refine Ret.start pm_236 rfl ?_
  have hgd := hg
  obtain ⟨rfl, hi, rfl, hj, hgo⟩ := hg
  have hi3 : i < 3 := by have := hw.2.1; omega
  have hj3 : j < 3 := by have := hw.2.2.1; omega
  have hwS := hw.2.2.2.1 i hi
  have hwP := hw.2.2.2.2 j hj
  have hn16 := hwS.1
  have hn5 := hwS.2.1
  have h6 := hwP.1
  have hS := hT.s hi
  have hP := hT.p hj
  have hs : 610 + 120 * i + 120 ≤ 4500 := by omega
  refine Ev.aload_n rfl rfl ?_
  refine Ev.iload_n rfl rfl ?_
  refine Ev.iload_n rfl rfl ?_
  refine Ev.cV2 rfl rfl (by assumption) rfl rfl (by decide) ⟨(Nat.le_refl _), (Nat.le_refl _)⟩ (m_goes_yes hM hT hw hgd) ?_
  refine Ev.if_ne (tgt := 11) rfl (by decide) (fun c6 => ?_) (fun c6 => absurd c6 (by decide))
  refine Ev.iconst (v := (-1)) rfl (by decide) ?_
  refine Ev.istore_n rfl rfl rfl ?_
  refine Ev.iconst (v := 0) rfl (by decide) ?_
  refine Ev.istore rfl rfl rfl ?_
  refine Ev.iconst (v := 0) rfl (by decide) ?_
  refine Ev.istore rfl rfl rfl ?_
  refine Ev.cg (L' := [some (.ref y), some (.int (nI i)), some (.int (nI j)), some (.int (((0 : Int32), (-1 : Int32))).2), some (.int (((0 : Int32), (-1 : Int32))).1), some (.int (nI 0)), none]) ?_ (by first | rfl | simp [nI_0])
  refine lp (fun k z => Ev Γ 0 0 m_M_whom 0 0 19 [some (.ref y), some (.int (nI i)), some (.int (nI j)), some (.int (z).2), some (.int (z).1), some (.int (nI k)), none] [] σ Q) (F_whom (tS T i) (tP T j)) ((tS T i).1) (fun k z hi hnx => ?_) ((tS T i).1) 0 (((0 : Int32), (-1 : Int32))) (by omega) ?_
  · skip
    refine Ev.iload rfl rfl ?_
    refine Ev.aload_n rfl rfl ?_
    refine Ev.getf rfl rfl (by assumption) rfl ?_
    refine Ev.iconst (v := 0) rfl (by decide) ?_
    refine Ev.iload_n rfl rfl ?_
    refine Ev.cS2 rfl rfl rfl (by decide) ⟨(Nat.le_refl _), (Nat.le_refl _)⟩ (m_pl0_ok i) ?_
    refine Ev.ialdN (k := 610 + 120 * i) rfl (by assumption) rfl ⟨(by omega), by decide⟩ ?_
    rw [hS.1]
    refine Ev.icmp_ge (tgt := 71) rfl (by decide) (fun c31 => absurd c31 (nI_ge hi (by omega))) (fun c31 => ?_)
    refine Ev.aload_n rfl rfl ?_
    refine Ev.iconst (v := 0) rfl (by decide) ?_
    refine Ev.iload_n rfl rfl ?_
    refine Ev.cS2 rfl rfl rfl (by decide) ⟨(Nat.le_refl _), (Nat.le_refl _)⟩ (m_pl0_ok i) ?_
    refine Ev.iload_n rfl rfl ?_
    refine Ev.iload rfl rfl ?_
    refine Ev.cV3 rfl rfl (by assumption) rfl rfl (by decide) ⟨(Nat.le_refl _), (Nat.le_refl _)⟩ (m_testOf_ok hM hS hs hwS hP hj3 hwP hgo k hi) ?_
    refine Ev.istore rfl rfl rfl ?_
    refine Ev.iload rfl rfl ?_
    refine Ev.iload rfl rfl ?_
    refine Ev.icmp_gt (tgt := 58) rfl (by decide) (fun c52 => ?_) (fun c52 => ?_)
    · skip
      refine Ev.iload rfl rfl ?_
      refine Ev.istore_n rfl rfl rfl ?_
      refine Ev.iload rfl rfl ?_
      refine Ev.istore rfl rfl rfl ?_
      refine Ev.iinc (d := 1) rfl rfl rfl (by decide) rfl ?_
      refine Ev.goto (tgt := 19) rfl (by decide) ?_
      exact hnx.fg (by simp [ex_ge, nI_1, F_whom_lt, fin3, *])
    · skip
      refine Ev.goto (tgt := 65) rfl (by decide) ?_
      refine Ev.iinc (d := 1) rfl rfl rfl (by decide) rfl ?_
      refine Ev.goto (tgt := 19) rfl (by decide) ?_
      exact hnx.fg (by simp [ex_ge, nI_1, F_whom_lt, fin3, *])
  · skip
    refine Ev.iload rfl rfl ?_
    refine Ev.aload_n rfl rfl ?_
    refine Ev.getf rfl rfl (by assumption) rfl ?_
    refine Ev.iconst (v := 0) rfl (by decide) ?_
    refine Ev.iload_n rfl rfl ?_
    refine Ev.cS2 rfl rfl rfl (by decide) ⟨(Nat.le_refl _), (Nat.le_refl _)⟩ (m_pl0_ok i) ?_
    refine Ev.ialdN (k := 610 + 120 * i) rfl (by assumption) rfl ⟨(by omega), by decide⟩ ?_
    rw [hS.1]
    refine Ev.icmp_ge (tgt := 71) rfl (by decide) (fun c31 => ?_) (fun c31 => absurd (nI_le (Nat.le_refl _) (by omega)) c31)
    refine Ev.iload_n rfl rfl ?_
    refine Ev.iret (ty := .int) rfl rfl rfl (Nat.le_refl _) (Nat.le_refl _) ?_
    rw [← hQ]
    exact ⟨rfl, rfl⟩
theorem m_whom_none (hM : isM σ y g A) (hT : mT A 0 T) (hw : wT T) {u v : Int32} (hg : ¬ ∃ i j, gd T u v i j)  : RetV Γ m_M_whom [.ref y, .int u, .int v] σ (.int (-1)) := by
  obtain ⟨m0, m1⟩ := id hM
  unfold RetV
  generalize hQ : (fun (r : Option Value) (σ' : ex_S) => r = some ((.int (-1)) : Value) ∧ σ' = σ) = Q
  refine Ret.start pm_236 rfl ?_
  refine Ev.aload_n rfl rfl ?_
  refine Ev.iload_n rfl rfl ?_
  refine Ev.iload_n rfl rfl ?_
  refine Ev.cV2 rfl rfl (by assumption) rfl rfl (by decide) ⟨(Nat.le_refl _), (Nat.le_refl _)⟩ (m_goes_no hM hT hw hg) ?_
  refine Ev.if_ne (tgt := 11) rfl (by decide) (fun c6 => absurd rfl c6) (fun c6 => ?_)
  refine Ev.iconst (v := (-1)) rfl (by decide) ?_
  refine Ev.iret (ty := .int) rfl rfl rfl (Nat.le_refl _) (Nat.le_refl _) ?_
  rw [← hQ]
  exact ⟨rfl, rfl⟩
end
end
