/-! off, lacks on both sides. -/
noncomputable section
def F_off (S : Sch) (fee : Int32) (i : Nat) (x : Int32) : Int32 := if fee ≤ S.2.2 2 i then x else x ||| (1 : Int32) <<< (nI i &&& 31)
def K_off (S : Sch) (fee : Int32) : Int32 := if fee < 0 then -1 else if 999 < fee then -1 else fo (F_off S fee) S.1 0 0
def K_lacks (S : Sch) (e : Int32) : Int32 := if e < 0 then -1 else if 6 ≤ e then -1 else K_max 0 (K_on S e - S.2.2 9 3 * K_min (S.2.2 9 4) (K_onT S e))
theorem gt_le {a b : Int32} : ¬ a ≤ b ↔ b < a := by rw [le_toInt, lt_toInt]; omega
theorem max0 (v : Int32) : K_max 0 v = if 0 ≤ v then v else 0 := by
  unfold K_max
  by_cases h : 0 < v
  · rw [if_pos h, if_pos (by rw [lt_toInt] at h; rw [le_toInt]; omega)]
  · rw [if_neg h]
    by_cases h2 : 0 ≤ v
    · rw [if_pos h2, eq_toInt]
      rw [lt_toInt] at h
      rw [le_toInt] at h2
      omega
    · rw [if_neg h2]
theorem min_eq (a b : Int32) : K_min a b = if a ≤ b then a else b := by
  unfold K_min
  by_cases h : a ≤ b
  · rw [if_pos h, if_neg (fun q => gt_le.mpr q h)]
  · rw [if_neg h, if_pos (gt_le.mp h)]
theorem lt6 {e : Int32} : e < 6 ↔ ¬ 5 < e := by
  have a : (6 : Int32).toInt = 6 := by decide
  have b : (5 : Int32).toInt = 5 := by decide
  rw [lt_toInt, lt_toInt, a, b]
  omega
section
variable {Γ : ex_G} {σ : ex_S} {x q a p y : Nat} {S : Sch} {T : Tol} {P : Pln} {g A : Nat → Int32}
theorem off_some (hX : isX σ x) (hT : isT σ (x + 1) T) (hw : wT T) {u : Int32} {i : Nat} (hg : u = nI i ∧ i < tSn T) (fee : Int32) : RetV Γ m_SD_off [.ref x, .int u, .int fee] σ (.int (K_off (tS T i) fee)) := by
  unfold isX at hX
  obtain ⟨t0, t1, ⟨fs, t2, t3⟩, ⟨fp, t4, t5⟩, t6, t7⟩ := id hT
  unfold RetV
  generalize hQ : (fun (r : Option Value) (σ' : ex_S) => r = some ((.int (K_off (tS T i) fee)) : Value) ∧ σ' = σ) = Q
  refine Ret.start pm_38 rfl ?_
  obtain ⟨rfl, hi⟩ := hg
  have hw1 := hw.2.1
  have hwS := hw.2.2.2.1 i hi
  have hn16 := hwS.1
  have hn5 := hwS.2.1
  have hSi := t6 i (by omega)
  obtain ⟨h0, h1, h2, h3, h4, h5, h6', h7, h8, h9, h10⟩ := id hSi
  refine Ev.aload_n rfl rfl ?_
  refine Ev.getf rfl rfl (by assumption) rfl ?_
  refine Ev.iload_n rfl rfl ?_
  refine Ev.cV1 rfl rfl (by assumption) rfl rfl (by decide) ⟨(Nat.le_refl _), (Nat.le_refl _)⟩ (schoolAt_some hT hw1 hi) ?_
  refine Ev.astore_n rfl rfl rfl ?_
  refine Ev.aload_n rfl rfl ?_
  refine Ev.ifnull rfl ?_
  refine Ev.iload_n rfl rfl ?_
  refine Ev.if_lt (tgt := 24) rfl (by decide) (fun c14 => ?_) (fun c14 => ?_)
  · skip
    refine Ev.iconst (v := (-1)) rfl (by decide) ?_
    refine Ev.iret (ty := .int) rfl rfl rfl (Nat.le_refl _) (Nat.le_refl _) ?_
    rw [← hQ]
    exact ⟨by simp_all [K_off, gt_le], rfl⟩
  · skip
    refine Ev.iload_n rfl rfl ?_
    refine Ev.sipush (v := 999) rfl (by decide) ?_
    refine Ev.icmp_le (tgt := 26) rfl (by decide) (fun c21 => ?_) (fun c21 => ?_)
    · skip
      refine Ev.iconst (v := 0) rfl (by decide) ?_
      refine Ev.istore rfl rfl rfl ?_
      refine Ev.iconst (v := 0) rfl (by decide) ?_
      refine Ev.istore rfl rfl rfl ?_
      refine Ev.cg (L' := [some (.ref x), some (.int (nI i)), some (.int fee), some (.ref (x + 1 + 4 + 19 * i)), some (.int 0), some (.int (nI 0))]) ?_ (by first | rfl | simp [nI_0])
      refine lp (fun k z => Ev Γ 0 0 m_SD_off 0 0 32 [some (.ref x), some (.int (nI i)), some (.int fee), some (.ref (x + 1 + 4 + 19 * i)), some (.int z), some (.int (nI k))] [] σ Q) (F_off (tS T i) fee) ((tS T i).1) (fun k z hi hnx => ?_) ((tS T i).1) 0 (0) (by omega) ?_
      · skip
        refine Ev.iload rfl rfl ?_
        refine Ev.aload_n rfl rfl ?_
        refine Ev.getf rfl rfl (by assumption) rfl ?_
        refine Ev.icmp_ge (tgt := 67) rfl (by decide) (fun c38 => absurd c38 (nI_ge hi (by omega))) (fun c38 => ?_)
        refine Ev.aload_n rfl rfl ?_
        refine Ev.getf rfl rfl (by assumption) rfl ?_
        refine Ev.iload rfl rfl ?_
        refine Ev.ialdN (k := k) rfl (by assumption) rfl ⟨(by omega), by decide⟩ ?_
        refine Ev.iload_n rfl rfl ?_
        refine Ev.icmp_ge (tgt := 61) rfl (by decide) (fun c49 => ?_) (fun c49 => ?_)
        · skip
          refine Ev.iinc (d := 1) rfl rfl rfl (by decide) rfl ?_
          refine Ev.goto (tgt := 32) rfl (by decide) ?_
          exact hnx.cg (by first | (simp [nI_1, F_off, *]; done) | (simp [nI_1, F_off, *]; rfl))
        · skip
          refine Ev.iload rfl rfl ?_
          refine Ev.iconst (v := 1) rfl (by decide) ?_
          refine Ev.iload rfl rfl ?_
          refine Ev.ishl rfl ?_
          refine Ev.ior rfl ?_
          refine Ev.istore rfl rfl rfl ?_
          refine Ev.iinc (d := 1) rfl rfl rfl (by decide) rfl ?_
          refine Ev.goto (tgt := 32) rfl (by decide) ?_
          exact hnx.cg (by first | (simp [nI_1, F_off, *]; done) | (simp [nI_1, F_off, *]; rfl))
      · skip
        refine Ev.iload rfl rfl ?_
        refine Ev.aload_n rfl rfl ?_
        refine Ev.getf rfl rfl (by assumption) rfl ?_
        refine Ev.icmp_ge (tgt := 67) rfl (by decide) (fun c38 => ?_) (fun c38 => absurd (nI_le (Nat.le_refl _) (by omega)) c38)
        refine Ev.iload rfl rfl ?_
        refine Ev.iret (ty := .int) rfl rfl rfl (Nat.le_refl _) (Nat.le_refl _) ?_
        rw [← hQ]
        exact ⟨by unfold K_off; rw [if_neg c14, if_neg (fun h => gt_le.mpr h c21)], rfl⟩
    · skip
      refine Ev.iconst (v := (-1)) rfl (by decide) ?_
      refine Ev.iret (ty := .int) rfl rfl rfl (Nat.le_refl _) (Nat.le_refl _) ?_
      rw [← hQ]
      exact ⟨by simp_all [K_off, gt_le], rfl⟩
theorem off_none (hX : isX σ x) (hT : isT σ (x + 1) T) (hw : wT T) {u : Int32} (hg : u < 0 ∨ nI (tSn T) ≤ u) (fee : Int32) : RetV Γ m_SD_off [.ref x, .int u, .int fee] σ (.int (-1)) := by
  unfold isX at hX
  obtain ⟨t0, t1, ⟨fs, t2, t3⟩, ⟨fp, t4, t5⟩, t6, t7⟩ := id hT
  unfold RetV
  generalize hQ : (fun (r : Option Value) (σ' : ex_S) => r = some ((.int (-1)) : Value) ∧ σ' = σ) = Q
  refine Ret.start pm_38 rfl ?_
  refine Ev.aload_n rfl rfl ?_
  refine Ev.getf rfl rfl (by assumption) rfl ?_
  refine Ev.iload_n rfl rfl ?_
  refine Ev.cV1 rfl rfl (by assumption) rfl rfl (by decide) ⟨(Nat.le_refl _), (Nat.le_refl _)⟩ (schoolAt_none hT hg) ?_
  refine Ev.astore_nN rfl rfl rfl ?_
  refine Ev.aload_nN rfl rfl ?_
  refine Ev.ifnullN (tgt := 24) rfl (by decide) ?_
  refine Ev.iconst (v := (-1)) rfl (by decide) ?_
  refine Ev.iret (ty := .int) rfl rfl rfl (Nat.le_refl _) (Nat.le_refl _) ?_
  rw [← hQ]
  exact ⟨rfl, rfl⟩
theorem K_in999 {fee : Int32} : K_in fee 0 999 = (if fee < 0 then 0 else if 999 < fee then 0 else 1) := rfl
theorem m_off_some (hM : isM σ y g A) (hT : mT A 0 T) (hw : wT T) {u : Int32} {i : Nat} (hg : u = nI i ∧ i < tSn T) (fee : Int32) : RetV Γ m_M_off [.ref y, .int u, .int fee] σ (.int (K_off (tS T i) fee)) := by
  obtain ⟨m0, m1⟩ := id hM
  unfold RetV
  generalize hQ : (fun (r : Option Value) (σ' : ex_S) => r = some ((.int (K_off (tS T i) fee)) : Value) ∧ σ' = σ) = Q
  refine Ret.start pm_268 rfl ?_
  obtain ⟨rfl, hi⟩ := hg
  have hi3 : i < 3 := by have := hw.2.1; omega
  have hwS := hw.2.2.2.1 i hi
  have hn16 := hwS.1
  have hn5 := hwS.2.1
  have hS := hT.s hi
  have hs : 610 + 120 * i + 120 ≤ 4500 := by omega
  refine Ev.aload_n rfl rfl ?_
  refine Ev.iconst (v := 0) rfl (by decide) ?_
  refine Ev.iload_n rfl rfl ?_
  refine Ev.cV2 rfl rfl (by assumption) rfl rfl (by decide) ⟨(Nat.le_refl _), (Nat.le_refl _)⟩ (m_isOf0_yes hM hT hw hi) ?_
  refine Ev.if_eq (tgt := 20) rfl (by decide) (fun c6 => absurd c6 (by decide)) (fun c6 => ?_)
  refine Ev.iload_n rfl rfl ?_
  refine Ev.iconst (v := 0) rfl (by decide) ?_
  refine Ev.sipush (v := 999) rfl (by decide) ?_
  refine Ev.cS3 rfl rfl rfl (by decide) ⟨(Nat.le_refl _), (Nat.le_refl _)⟩ (m_in_ok _ _ _) ?_
  refine Ev.if_ne (tgt := 22) rfl (by decide) (fun c17 => ?_) (fun c17 => ?_)
  · skip
    refine Ev.iconst (v := 0) rfl (by decide) ?_
    refine Ev.iload_n rfl rfl ?_
    refine Ev.cS2 rfl rfl rfl (by decide) ⟨(Nat.le_refl _), (Nat.le_refl _)⟩ (m_pl0_ok i) ?_
    refine Ev.istore_n rfl rfl rfl ?_
    refine Ev.iconst (v := 0) rfl (by decide) ?_
    refine Ev.istore rfl rfl rfl ?_
    refine Ev.iconst (v := 0) rfl (by decide) ?_
    refine Ev.istore rfl rfl rfl ?_
    refine Ev.cg (L' := [some (.ref y), some (.int (nI i)), some (.int fee), some (.int (nI (610 + 120 * i))), some (.int 0), some (.int (nI 0))]) ?_ (by first | rfl | simp [nI_0])
    refine lp (fun k z => Ev Γ 0 0 m_M_off 0 0 34 [some (.ref y), some (.int (nI i)), some (.int fee), some (.int (nI (610 + 120 * i))), some (.int z), some (.int (nI k))] [] σ Q) (F_off (tS T i) fee) ((tS T i).1) (fun k z hi hnx => ?_) ((tS T i).1) 0 (0) (by omega) ?_
    · skip
      refine Ev.iload rfl rfl ?_
      refine Ev.aload_n rfl rfl ?_
      refine Ev.getf rfl rfl (by assumption) rfl ?_
      refine Ev.iload_n rfl rfl ?_
      refine Ev.ialdN (k := 610 + 120 * i) rfl (by assumption) rfl ⟨(by omega), by decide⟩ ?_
      rw [hS.1]
      refine Ev.icmp_ge (tgt := 80) rfl (by decide) (fun c42 => absurd c42 (nI_ge hi (by omega))) (fun c42 => ?_)
      refine Ev.iload rfl rfl ?_
      refine Ev.aload_n rfl rfl ?_
      refine Ev.getf rfl rfl (by assumption) rfl ?_
      refine Ev.iload_n rfl rfl ?_
      refine Ev.bipush (v := 45) rfl (by decide) ?_
      refine Ev.iadd rfl ?_
      refine Ev.iload rfl rfl ?_
      refine Ev.iadd rfl ?_
      refine Ev.ialdN (k := 610 + 120 * i + 45 + k) rfl (by assumption) (ix2 _ 45 k) ⟨(by omega), by decide⟩ ?_
      rw [(hS.2.2.2.1 k hi).2.2.1]
      refine Ev.iload_n rfl rfl ?_
      refine Ev.icmp_ge (tgt := 70) rfl (by decide) (fun c60 => ?_) (fun c60 => ?_)
      · skip
        refine Ev.iconst (v := 0) rfl (by decide) ?_
        refine Ev.ior rfl ?_
        refine Ev.istore rfl rfl rfl ?_
        refine Ev.iinc (d := 1) rfl rfl rfl (by decide) rfl ?_
        refine Ev.goto (tgt := 34) rfl (by decide) ?_
        exact hnx.cg (by first | (simp [nI_1, F_off, *]; done) | (simp [nI_1, F_off, *]; rfl))
      · skip
        refine Ev.iconst (v := 1) rfl (by decide) ?_
        refine Ev.iload rfl rfl ?_
        refine Ev.ishl rfl ?_
        refine Ev.goto (tgt := 71) rfl (by decide) ?_
        refine Ev.ior rfl ?_
        refine Ev.istore rfl rfl rfl ?_
        refine Ev.iinc (d := 1) rfl rfl rfl (by decide) rfl ?_
        refine Ev.goto (tgt := 34) rfl (by decide) ?_
        exact hnx.cg (by first | (simp [nI_1, F_off, *]; done) | (simp [nI_1, F_off, *]; rfl))
    · skip
      refine Ev.iload rfl rfl ?_
      refine Ev.aload_n rfl rfl ?_
      refine Ev.getf rfl rfl (by assumption) rfl ?_
      refine Ev.iload_n rfl rfl ?_
      refine Ev.ialdN (k := 610 + 120 * i) rfl (by assumption) rfl ⟨(by omega), by decide⟩ ?_
      rw [hS.1]
      refine Ev.icmp_ge (tgt := 80) rfl (by decide) (fun c42 => ?_) (fun c42 => absurd (nI_le (Nat.le_refl _) (by omega)) c42)
      refine Ev.iload rfl rfl ?_
      refine Ev.iret (ty := .int) rfl rfl rfl (Nat.le_refl _) (Nat.le_refl _) ?_
      rw [← hQ]
      refine ⟨?_, rfl⟩
      unfold K_off
      unfold K_in at c17
      by_cases q1 : fee < 0
      · rw [if_pos q1] at c17
        exact absurd rfl c17
      · by_cases q2 : 999 < fee
        · rw [if_neg q1, if_pos q2] at c17
          exact absurd rfl c17
        · rw [if_neg q1, if_neg q2]
  · skip
    refine Ev.iconst (v := (-1)) rfl (by decide) ?_
    refine Ev.iret (ty := .int) rfl rfl rfl (Nat.le_refl _) (Nat.le_refl _) ?_
    rw [← hQ]
    refine ⟨?_, rfl⟩
    unfold K_off
    unfold K_in at c17
    by_cases q1 : fee < 0
    · rw [if_pos q1]
    · by_cases q2 : 999 < fee
      · rw [if_neg q1, if_pos q2]
      · rw [if_neg q1, if_neg q2] at c17
        exact absurd c17 (by decide)
theorem m_off_none (hM : isM σ y g A) (hT : mT A 0 T) (hw : wT T) {u : Int32} (hg : u < 0 ∨ nI (tSn T) ≤ u) (fee : Int32) : RetV Γ m_M_off [.ref y, .int u, .int fee] σ (.int (-1)) := by
  obtain ⟨m0, m1⟩ := id hM
  unfold RetV
  generalize hQ : (fun (r : Option Value) (σ' : ex_S) => r = some ((.int (-1)) : Value) ∧ σ' = σ) = Q
  refine Ret.start pm_268 rfl ?_
  refine Ev.aload_n rfl rfl ?_
  refine Ev.iconst (v := 0) rfl (by decide) ?_
  refine Ev.iload_n rfl rfl ?_
  refine Ev.cV2 rfl rfl (by assumption) rfl rfl (by decide) ⟨(Nat.le_refl _), (Nat.le_refl _)⟩ (m_isOf0_no hM hT hw hg) ?_
  refine Ev.if_eq (tgt := 20) rfl (by decide) (fun c6 => ?_) (fun c6 => absurd rfl c6)
  refine Ev.iconst (v := (-1)) rfl (by decide) ?_
  refine Ev.iret (ty := .int) rfl rfl rfl (Nat.le_refl _) (Nat.le_refl _) ?_
  rw [← hQ]
  exact ⟨rfl, rfl⟩
theorem lacks_some (hX : isX σ x) (hT : isT σ (x + 1) T) (hw : wT T) {u : Int32} {i : Nat} (hg : u = nI i ∧ i < tSn T) (e : Int32) : RetV Γ m_SD_lacks [.ref x, .int u, .int e] σ (.int (K_lacks (tS T i) e)) := by
  unfold isX at hX
  obtain ⟨t0, t1, ⟨fs, t2, t3⟩, ⟨fp, t4, t5⟩, t6, t7⟩ := id hT
  unfold RetV
  generalize hQ : (fun (r : Option Value) (σ' : ex_S) => r = some ((.int (K_lacks (tS T i) e)) : Value) ∧ σ' = σ) = Q
  refine Ret.start pm_29 rfl ?_
  obtain ⟨rfl, hi⟩ := hg
  have hw1 := hw.2.1
  have hwS := hw.2.2.2.1 i hi
  have hn16 := hwS.1
  have hn5 := hwS.2.1
  have hSi := t6 i (by omega)
  obtain ⟨h0, h1, h2, h3, h4, h5, h6', h7, h8, h9, h10⟩ := id hSi
  refine Ev.aload_n rfl rfl ?_
  refine Ev.getf rfl rfl (by assumption) rfl ?_
  refine Ev.iload_n rfl rfl ?_
  refine Ev.cV1 rfl rfl (by assumption) rfl rfl (by decide) ⟨(Nat.le_refl _), (Nat.le_refl _)⟩ (schoolAt_some hT hw1 hi) ?_
  refine Ev.astore_n rfl rfl rfl ?_
  refine Ev.aload_n rfl rfl ?_
  refine Ev.ifnull rfl ?_
  refine Ev.iload_n rfl rfl ?_
  refine Ev.if_lt (tgt := 23) rfl (by decide) (fun c14 => ?_) (fun c14 => ?_)
  · skip
    refine Ev.iconst (v := (-1)) rfl (by decide) ?_
    refine Ev.iret (ty := .int) rfl rfl rfl (Nat.le_refl _) (Nat.le_refl _) ?_
    rw [← hQ]
    exact ⟨by simp_all [K_lacks], rfl⟩
  · skip
    refine Ev.iload_n rfl rfl ?_
    refine Ev.bipush (v := 6) rfl (by decide) ?_
    refine Ev.icmp_lt (tgt := 25) rfl (by decide) (fun c20 => ?_) (fun c20 => ?_)
    · skip
      refine Ev.aload_n rfl rfl ?_
      refine Ev.getf rfl rfl (by assumption) rfl ?_
      refine Ev.iconst (v := 4) rfl (by decide) ?_
      refine Ev.ialdN (k := 4) rfl (by assumption) (by decide) ⟨(by decide), by decide⟩ ?_
      refine Ev.aload_n rfl rfl ?_
      refine Ev.iload_n rfl rfl ?_
      refine Ev.cV1 rfl rfl (by assumption) rfl rfl (by decide) ⟨(Nat.le_refl _), (Nat.le_refl _)⟩ (onT_ok hSi e hn5) ?_
      refine Ev.mmin rfl rfl rfl (Nat.le_of_ble_eq_true rfl) ⟨(Nat.le_refl _), (Nat.le_refl _)⟩ ?_
      refine Ev.istore rfl rfl rfl ?_
      refine Ev.iconst (v := 0) rfl (by decide) ?_
      refine Ev.aload_n rfl rfl ?_
      refine Ev.iload_n rfl rfl ?_
      refine Ev.cV1 rfl rfl (by assumption) rfl rfl (by decide) ⟨(Nat.le_refl _), (Nat.le_refl _)⟩ (on_ok hSi e hn16) ?_
      refine Ev.aload_n rfl rfl ?_
      refine Ev.getf rfl rfl (by assumption) rfl ?_
      refine Ev.iconst (v := 3) rfl (by decide) ?_
      refine Ev.ialdN (k := 3) rfl (by assumption) (by decide) ⟨(by decide), by decide⟩ ?_
      refine Ev.iload rfl rfl ?_
      refine Ev.imul rfl ?_
      refine Ev.isub rfl ?_
      refine Ev.mmax rfl rfl rfl (Nat.le_of_ble_eq_true rfl) ⟨(Nat.le_refl _), (Nat.le_refl _)⟩ ?_
      refine Ev.iret (ty := .int) rfl rfl rfl (Nat.le_refl _) (Nat.le_refl _) ?_
      rw [← hQ]
      have c6 : ¬ (6 : Int32) ≤ e := by rw [le_toInt]; rw [lt_toInt] at c20; omega
      exact ⟨by simp only [K_lacks, if_neg c14, if_neg c6]; rfl, rfl⟩
    · skip
      refine Ev.iconst (v := (-1)) rfl (by decide) ?_
      refine Ev.iret (ty := .int) rfl rfl rfl (Nat.le_refl _) (Nat.le_refl _) ?_
      rw [← hQ]
      exact ⟨by simp_all [K_lacks], rfl⟩
theorem lacks_none (hX : isX σ x) (hT : isT σ (x + 1) T) (hw : wT T) {u : Int32} (hg : u < 0 ∨ nI (tSn T) ≤ u) (e : Int32) : RetV Γ m_SD_lacks [.ref x, .int u, .int e] σ (.int (-1)) := by
  unfold isX at hX
  obtain ⟨t0, t1, ⟨fs, t2, t3⟩, ⟨fp, t4, t5⟩, t6, t7⟩ := id hT
  unfold RetV
  generalize hQ : (fun (r : Option Value) (σ' : ex_S) => r = some ((.int (-1)) : Value) ∧ σ' = σ) = Q
  refine Ret.start pm_29 rfl ?_
  refine Ev.aload_n rfl rfl ?_
  refine Ev.getf rfl rfl (by assumption) rfl ?_
  refine Ev.iload_n rfl rfl ?_
  refine Ev.cV1 rfl rfl (by assumption) rfl rfl (by decide) ⟨(Nat.le_refl _), (Nat.le_refl _)⟩ (schoolAt_none hT hg) ?_
  refine Ev.astore_nN rfl rfl rfl ?_
  refine Ev.aload_nN rfl rfl ?_
  refine Ev.ifnullN (tgt := 23) rfl (by decide) ?_
  refine Ev.iconst (v := (-1)) rfl (by decide) ?_
  refine Ev.iret (ty := .int) rfl rfl rfl (Nat.le_refl _) (Nat.le_refl _) ?_
  rw [← hQ]
  exact ⟨rfl, rfl⟩
theorem m_lacks_some (hM : isM σ y g A) (hT : mT A 0 T) (hw : wT T) {u : Int32} {i : Nat} (hg : u = nI i ∧ i < tSn T) (e : Int32) : RetV Γ m_M_lacks [.ref y, .int u, .int e] σ (.int (K_lacks (tS T i) e)) := by
  obtain ⟨m0, m1⟩ := id hM
  unfold RetV
  generalize hQ : (fun (r : Option Value) (σ' : ex_S) => r = some ((.int (K_lacks (tS T i) e)) : Value) ∧ σ' = σ) = Q
  refine Ret.start pm_257 rfl ?_
  obtain ⟨rfl, hi⟩ := hg
  have hi3 : i < 3 := by have := hw.2.1; omega
  have hwS := hw.2.2.2.1 i hi
  have hn16 := hwS.1
  have hn5 := hwS.2.1
  have hS := hT.s hi
  have hs : 610 + 120 * i + 120 ≤ 4500 := by omega
  refine Ev.aload_n rfl rfl ?_
  refine Ev.iconst (v := 0) rfl (by decide) ?_
  refine Ev.iload_n rfl rfl ?_
  refine Ev.cV2 rfl rfl (by assumption) rfl rfl (by decide) ⟨(Nat.le_refl _), (Nat.le_refl _)⟩ (m_isOf0_yes hM hT hw hi) ?_
  refine Ev.if_eq (tgt := 18) rfl (by decide) (fun c6 => absurd c6 (by decide)) (fun c6 => ?_)
  refine Ev.iload_n rfl rfl ?_
  refine Ev.iconst (v := 0) rfl (by decide) ?_
  refine Ev.iconst (v := 5) rfl (by decide) ?_
  refine Ev.cS3 rfl rfl rfl (by decide) ⟨(Nat.le_refl _), (Nat.le_refl _)⟩ (m_in_ok _ _ _) ?_
  refine Ev.if_ne (tgt := 20) rfl (by decide) (fun c15 => ?_) (fun c15 => ?_)
  · skip
    refine Ev.iconst (v := 0) rfl (by decide) ?_
    refine Ev.iload_n rfl rfl ?_
    refine Ev.cS2 rfl rfl rfl (by decide) ⟨(Nat.le_refl _), (Nat.le_refl _)⟩ (m_pl0_ok i) ?_
    refine Ev.istore_n rfl rfl rfl ?_
    refine Ev.iconst (v := 0) rfl (by decide) ?_
    refine Ev.istore rfl rfl rfl ?_
    refine Ev.iconst (v := 0) rfl (by decide) ?_
    refine Ev.istore rfl rfl rfl ?_
    refine Ev.cg (L' := [some (.ref y), some (.int (nI i)), some (.int e), some (.int (nI (610 + 120 * i))), some (.int 0), some (.int (nI 0)), none]) ?_ (by first | rfl | simp [nI_0])
    refine lp (fun k z => Ev Γ 0 0 m_M_lacks 0 0 32 [some (.ref y), some (.int (nI i)), some (.int e), some (.int (nI (610 + 120 * i))), some (.int z), some (.int (nI k)), none] [] σ Q) (fun l x => x + K_bit ((tS T i).2.2 1 l) e) ((tS T i).1) (fun k z hi hnx => ?_) ((tS T i).1) 0 (0) (by omega) ?_
    · skip
      refine Ev.iload rfl rfl ?_
      refine Ev.aload_n rfl rfl ?_
      refine Ev.getf rfl rfl (by assumption) rfl ?_
      refine Ev.iload_n rfl rfl ?_
      refine Ev.ialdN (k := 610 + 120 * i) rfl (by assumption) rfl ⟨(by omega), by decide⟩ ?_
      rw [hS.1]
      refine Ev.icmp_ge (tgt := 70) rfl (by decide) (fun c40 => absurd c40 (nI_ge hi (by omega))) (fun c40 => ?_)
      refine Ev.iload rfl rfl ?_
      refine Ev.aload_n rfl rfl ?_
      refine Ev.getf rfl rfl (by assumption) rfl ?_
      refine Ev.iload_n rfl rfl ?_
      refine Ev.bipush (v := 29) rfl (by decide) ?_
      refine Ev.iadd rfl ?_
      refine Ev.iload rfl rfl ?_
      refine Ev.iadd rfl ?_
      refine Ev.ialdN (k := 610 + 120 * i + 29 + k) rfl (by assumption) (ix2 _ 29 k) ⟨(by omega), by decide⟩ ?_
      rw [(hS.2.2.2.1 k hi).2.1]
      refine Ev.iload_n rfl rfl ?_
      refine Ev.ishr rfl ?_
      refine Ev.iconst (v := 1) rfl (by decide) ?_
      refine Ev.iand rfl ?_
      refine Ev.iadd rfl ?_
      refine Ev.istore rfl rfl rfl ?_
      refine Ev.iinc (d := 1) rfl rfl rfl (by decide) rfl ?_
      refine Ev.goto (tgt := 32) rfl (by decide) ?_
      exact hnx.cg (by first | (simp [nI_1, K_bit, *]; done) | (simp [nI_1, K_bit, *]; rfl))
    · skip
      refine Ev.iload rfl rfl ?_
      refine Ev.aload_n rfl rfl ?_
      refine Ev.getf rfl rfl (by assumption) rfl ?_
      refine Ev.iload_n rfl rfl ?_
      refine Ev.ialdN (k := 610 + 120 * i) rfl (by assumption) rfl ⟨(by omega), by decide⟩ ?_
      rw [hS.1]
      refine Ev.icmp_ge (tgt := 70) rfl (by decide) (fun c40 => ?_) (fun c40 => absurd (nI_le (Nat.le_refl _) (by omega)) c40)
      refine Ev.iconst (v := 0) rfl (by decide) ?_
      refine Ev.istore rfl rfl rfl ?_
      refine Ev.iconst (v := 0) rfl (by decide) ?_
      refine Ev.istore rfl rfl rfl ?_
      refine Ev.cg (L' := [some (.ref y), some (.int (nI i)), some (.int e), some (.int (nI (610 + 120 * i))), some (.int (K_on (tS T i) e)), some (.int 0), some (.int (nI 0))]) ?_ (by first | rfl | simp [nI_0])
      refine lp (fun k z => Ev Γ 0 0 m_M_lacks 0 0 76 [some (.ref y), some (.int (nI i)), some (.int e), some (.int (nI (610 + 120 * i))), some (.int (K_on (tS T i) e)), some (.int z), some (.int (nI k))] [] σ Q) (fun l x => x + K_bit ((tS T i).2.2 5 l) e) ((tS T i).2.1) (fun k z hi hnx => ?_) ((tS T i).2.1) 0 (0) (by omega) ?_
      · skip
        refine Ev.iload rfl rfl ?_
        refine Ev.aload_n rfl rfl ?_
        refine Ev.getf rfl rfl (by assumption) rfl ?_
        refine Ev.iload_n rfl rfl ?_
        refine Ev.iconst (v := 1) rfl (by decide) ?_
        refine Ev.iadd rfl ?_
        refine Ev.ialdN (k := 610 + 120 * i + 1) rfl (by assumption) (nI_add _ 1) ⟨(by omega), by decide⟩ ?_
        rw [hS.2.1]
        refine Ev.icmp_ge (tgt := 116) rfl (by decide) (fun c86 => absurd c86 (nI_ge hi (by omega))) (fun c86 => ?_)
        refine Ev.iload rfl rfl ?_
        refine Ev.aload_n rfl rfl ?_
        refine Ev.getf rfl rfl (by assumption) rfl ?_
        refine Ev.iload_n rfl rfl ?_
        refine Ev.bipush (v := 93) rfl (by decide) ?_
        refine Ev.iadd rfl ?_
        refine Ev.iload rfl rfl ?_
        refine Ev.iadd rfl ?_
        refine Ev.ialdN (k := 610 + 120 * i + 93 + k) rfl (by assumption) (ix2 _ 93 k) ⟨(by omega), by decide⟩ ?_
        rw [(hS.2.2.2.2.1 k hi).1]
        refine Ev.iload_n rfl rfl ?_
        refine Ev.ishr rfl ?_
        refine Ev.iconst (v := 1) rfl (by decide) ?_
        refine Ev.iand rfl ?_
        refine Ev.iadd rfl ?_
        refine Ev.istore rfl rfl rfl ?_
        refine Ev.iinc (d := 1) rfl rfl rfl (by decide) rfl ?_
        refine Ev.goto (tgt := 76) rfl (by decide) ?_
        exact hnx.cg (by first | (simp [nI_1, K_bit, *]; done) | (simp [nI_1, K_bit, *]; rfl))
      · skip
        refine Ev.iload rfl rfl ?_
        refine Ev.aload_n rfl rfl ?_
        refine Ev.getf rfl rfl (by assumption) rfl ?_
        refine Ev.iload_n rfl rfl ?_
        refine Ev.iconst (v := 1) rfl (by decide) ?_
        refine Ev.iadd rfl ?_
        refine Ev.ialdN (k := 610 + 120 * i + 1) rfl (by assumption) (nI_add _ 1) ⟨(by omega), by decide⟩ ?_
        rw [hS.2.1]
        refine Ev.icmp_ge (tgt := 116) rfl (by decide) (fun c86 => ?_) (fun c86 => absurd (nI_le (Nat.le_refl _) (by omega)) c86)
        refine Ev.iload rfl rfl ?_
        refine Ev.aload_n rfl rfl ?_
        refine Ev.getf rfl rfl (by assumption) rfl ?_
        refine Ev.iload_n rfl rfl ?_
        refine Ev.bipush (v := 6) rfl (by decide) ?_
        refine Ev.iadd rfl ?_
        refine Ev.ialdN (k := 610 + 120 * i + 6) rfl (by assumption) (nI_add _ 6) ⟨(by omega), by decide⟩ ?_
        rw [show A (610 + 120 * i + 6) = _ from hS.2.2.1 4 (by decide)]
        refine Ev.icmp_ge (tgt := 135) rfl (by decide) (fun c127 => ?_) (fun c127 => ?_)
        · skip
          refine Ev.aload_n rfl rfl ?_
          refine Ev.getf rfl rfl (by assumption) rfl ?_
          refine Ev.iload_n rfl rfl ?_
          refine Ev.bipush (v := 6) rfl (by decide) ?_
          refine Ev.iadd rfl ?_
          refine Ev.ialdN (k := 610 + 120 * i + 6) rfl (by assumption) (nI_add _ 6) ⟨(by omega), by decide⟩ ?_
          try rw [show A (610 + 120 * i + 6) = _ from hS.2.2.1 4 (by decide)]
          refine Ev.istore rfl rfl rfl ?_
          refine Ev.iload rfl rfl ?_
          refine Ev.aload_n rfl rfl ?_
          refine Ev.getf rfl rfl (by assumption) rfl ?_
          refine Ev.iload_n rfl rfl ?_
          refine Ev.iconst (v := 5) rfl (by decide) ?_
          refine Ev.iadd rfl ?_
          refine Ev.ialdN (k := 610 + 120 * i + 5) rfl (by assumption) (nI_add _ 5) ⟨(by omega), by decide⟩ ?_
          rw [show A (610 + 120 * i + 5) = _ from hS.2.2.1 3 (by decide)]
          refine Ev.iload rfl rfl ?_
          refine Ev.imul rfl ?_
          refine Ev.isub rfl ?_
          refine Ev.istore rfl rfl rfl ?_
          refine Ev.iload rfl rfl ?_
          refine Ev.if_ge (tgt := 171) rfl (by decide) (fun c164 => ?_) (fun c164 => ?_)
          · skip
            refine Ev.iload rfl rfl ?_
            refine Ev.iret (ty := .int) rfl rfl rfl (Nat.le_refl _) (Nat.le_refl _) ?_
            rw [← hQ]
            refine ⟨?_, rfl⟩
            unfold K_in at c15
            have q1 : ¬ e < 0 := fun h => by rw [if_pos h] at c15; exact absurd rfl c15
            have q2 : ¬ 5 < e := fun h => by rw [if_neg q1, if_pos h] at c15; exact absurd rfl c15
            have q3 : ¬ (6 : Int32) ≤ e := by rw [lt_toInt] at q2; rw [le_toInt]; have h5 : (5 : Int32).toInt = 5 := by decide
                                              have h6 : (6 : Int32).toInt = 6 := by decide
                                              omega
            simp only [K_lacks, if_neg q1, if_neg q3, max0, min_eq]
            unfold K_onT
            first | rw [if_pos c127] | rw [if_neg c127]
            first | rw [if_pos c164] | rw [if_neg c164]
          · skip
            refine Ev.iconst (v := 0) rfl (by decide) ?_
            refine Ev.goto (tgt := 173) rfl (by decide) ?_
            refine Ev.iret (ty := .int) rfl rfl rfl (Nat.le_refl _) (Nat.le_refl _) ?_
            rw [← hQ]
            refine ⟨?_, rfl⟩
            unfold K_in at c15
            have q1 : ¬ e < 0 := fun h => by rw [if_pos h] at c15; exact absurd rfl c15
            have q2 : ¬ 5 < e := fun h => by rw [if_neg q1, if_pos h] at c15; exact absurd rfl c15
            have q3 : ¬ (6 : Int32) ≤ e := by rw [lt_toInt] at q2; rw [le_toInt]; have h5 : (5 : Int32).toInt = 5 := by decide
                                              have h6 : (6 : Int32).toInt = 6 := by decide
                                              omega
            simp only [K_lacks, if_neg q1, if_neg q3, max0, min_eq]
            unfold K_onT
            first | rw [if_pos c127] | rw [if_neg c127]
            first | rw [if_pos c164] | rw [if_neg c164]
        · skip
          refine Ev.iload rfl rfl ?_
          refine Ev.goto (tgt := 144) rfl (by decide) ?_
          try rw [show A (610 + 120 * i + 6) = _ from hS.2.2.1 4 (by decide)]
          refine Ev.istore rfl rfl rfl ?_
          refine Ev.iload rfl rfl ?_
          refine Ev.aload_n rfl rfl ?_
          refine Ev.getf rfl rfl (by assumption) rfl ?_
          refine Ev.iload_n rfl rfl ?_
          refine Ev.iconst (v := 5) rfl (by decide) ?_
          refine Ev.iadd rfl ?_
          refine Ev.ialdN (k := 610 + 120 * i + 5) rfl (by assumption) (nI_add _ 5) ⟨(by omega), by decide⟩ ?_
          rw [show A (610 + 120 * i + 5) = _ from hS.2.2.1 3 (by decide)]
          refine Ev.iload rfl rfl ?_
          refine Ev.imul rfl ?_
          refine Ev.isub rfl ?_
          refine Ev.istore rfl rfl rfl ?_
          refine Ev.iload rfl rfl ?_
          refine Ev.if_ge (tgt := 171) rfl (by decide) (fun c164 => ?_) (fun c164 => ?_)
          · skip
            refine Ev.iload rfl rfl ?_
            refine Ev.iret (ty := .int) rfl rfl rfl (Nat.le_refl _) (Nat.le_refl _) ?_
            rw [← hQ]
            refine ⟨?_, rfl⟩
            unfold K_in at c15
            have q1 : ¬ e < 0 := fun h => by rw [if_pos h] at c15; exact absurd rfl c15
            have q2 : ¬ 5 < e := fun h => by rw [if_neg q1, if_pos h] at c15; exact absurd rfl c15
            have q3 : ¬ (6 : Int32) ≤ e := by rw [lt_toInt] at q2; rw [le_toInt]; have h5 : (5 : Int32).toInt = 5 := by decide
                                              have h6 : (6 : Int32).toInt = 6 := by decide
                                              omega
            simp only [K_lacks, if_neg q1, if_neg q3, max0, min_eq]
            unfold K_onT
            first | rw [if_pos c127] | rw [if_neg c127]
            first | rw [if_pos c164] | rw [if_neg c164]
          · skip
            refine Ev.iconst (v := 0) rfl (by decide) ?_
            refine Ev.goto (tgt := 173) rfl (by decide) ?_
            refine Ev.iret (ty := .int) rfl rfl rfl (Nat.le_refl _) (Nat.le_refl _) ?_
            rw [← hQ]
            refine ⟨?_, rfl⟩
            unfold K_in at c15
            have q1 : ¬ e < 0 := fun h => by rw [if_pos h] at c15; exact absurd rfl c15
            have q2 : ¬ 5 < e := fun h => by rw [if_neg q1, if_pos h] at c15; exact absurd rfl c15
            have q3 : ¬ (6 : Int32) ≤ e := by rw [lt_toInt] at q2; rw [le_toInt]; have h5 : (5 : Int32).toInt = 5 := by decide
                                              have h6 : (6 : Int32).toInt = 6 := by decide
                                              omega
            simp only [K_lacks, if_neg q1, if_neg q3, max0, min_eq]
            unfold K_onT
            first | rw [if_pos c127] | rw [if_neg c127]
            first | rw [if_pos c164] | rw [if_neg c164]
  · skip
    refine Ev.iconst (v := (-1)) rfl (by decide) ?_
    refine Ev.iret (ty := .int) rfl rfl rfl (Nat.le_refl _) (Nat.le_refl _) ?_
    rw [← hQ]
    refine ⟨?_, rfl⟩
    unfold K_in at c15
    by_cases q1 : e < 0
    · simp only [K_lacks, if_pos q1]
    · by_cases q2 : 5 < e
      · have q3 : (6 : Int32) ≤ e := by rw [lt_toInt] at q2; rw [le_toInt]; have h5 : (5 : Int32).toInt = 5 := by decide
                                        have h6 : (6 : Int32).toInt = 6 := by decide
                                        omega
        simp only [K_lacks, if_neg q1, if_pos q3]
      · rw [if_neg q1, if_neg q2] at c15
        exact absurd c15 (by decide)
theorem m_lacks_none (hM : isM σ y g A) (hT : mT A 0 T) (hw : wT T) {u : Int32} (hg : u < 0 ∨ nI (tSn T) ≤ u) (e : Int32) : RetV Γ m_M_lacks [.ref y, .int u, .int e] σ (.int (-1)) := by
  obtain ⟨m0, m1⟩ := id hM
  unfold RetV
  generalize hQ : (fun (r : Option Value) (σ' : ex_S) => r = some ((.int (-1)) : Value) ∧ σ' = σ) = Q
  refine Ret.start pm_257 rfl ?_
  refine Ev.aload_n rfl rfl ?_
  refine Ev.iconst (v := 0) rfl (by decide) ?_
  refine Ev.iload_n rfl rfl ?_
  refine Ev.cV2 rfl rfl (by assumption) rfl rfl (by decide) ⟨(Nat.le_refl _), (Nat.le_refl _)⟩ (m_isOf0_no hM hT hw hg) ?_
  refine Ev.if_eq (tgt := 18) rfl (by decide) (fun c6 => ?_) (fun c6 => absurd rfl c6)
  refine Ev.iconst (v := (-1)) rfl (by decide) ?_
  refine Ev.iret (ty := .int) rfl rfl rfl (Nat.le_refl _) (Nat.le_refl _) ?_
  rw [← hQ]
  exact ⟨rfl, rfl⟩
end
end
