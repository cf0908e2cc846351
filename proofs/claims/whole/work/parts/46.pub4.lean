/-! learner, plan, about, count, fault on both sides. -/
noncomputable section
theorem sw_out {x : Int32} {n : Nat} (hn : n < 100) (h : x < 0 ∨ nI n ≤ x) : x.toInt < 0 ∨ (n : Int) - 1 < x.toInt := by
  have z : (0 : Int32).toInt = 0 := by decide
  rcases h with h | h
  · left
    rw [lt_toInt, z] at h
    exact h
  · right
    rw [le_toInt, nI_toInt (by omega)] at h
    omega
def K_lrn (S : Sch) (l w : Int32) : Int32 := match ixd l S.1 with
  | none => -2
  | some l => match ixd w 5 with
    | none => -2
    | some k => S.2.2 k l
def K_plan (P : Pln) (k w : Int32) : Int32 := if k = -1 then (if w = 0 then nI P.1 else -2) else match ixd k P.1 with
  | none => -2
  | some k => match ixd w 6 with
    | none => -2
    | some q => P.2 k q
theorem K_in_n {x : Int32} {n : Nat} {m : Int32} (hm : m = nI n - 1) (hn : n < 1000) (h : x < 0 ∨ nI n ≤ x) : K_in x 0 m = 0 := by
  rw [hm]; exact K_in_no hn h
theorem K_in_y {i n : Nat} {m : Int32} (hm : m = nI n - 1) (hn : n < 1000) (h : i < n) : K_in (nI i) 0 m = 1 := by
  rw [hm]; exact K_in_yes h hn
section
variable {Γ : ex_G} {σ : ex_S} {x q a p y : Nat} {S : Sch} {T : Tol} {P : Pln} {g A : Nat → Int32}
theorem learner_some (hX : isX σ x) (hT : isT σ (x + 1) T) (hw : wT T) {u : Int32} {i : Nat} (hg : u = nI i ∧ i < tSn T) (l w : Int32) : RetV Γ m_SD_learner [.ref x, .int u, .int l, .int w] σ (.int (K_lrn (tS T i) l w)) := by
  unfold isX at hX
  obtain ⟨t0, t1, ⟨fs, t2, t3⟩, ⟨fp, t4, t5⟩, t6, t7⟩ := id hT
  unfold RetV
  generalize hQ : (fun (r : Option Value) (σ' : ex_S) => r = some ((.int (K_lrn (tS T i) l w)) : Value) ∧ σ' = σ) = Q
  refine Ret.start pm_7 rfl ?_
  obtain ⟨rfl, hi⟩ := hg
  have hw1 := hw.2.1
  have hwS := hw.2.2.2.1 i hi
  have hn16 := hwS.1
  have hn5 := hwS.2.1
  have hSi := t6 i (by omega)
  obtain ⟨h0, h1, h2, h3, h4, h5, h6', h7, h8, h9, h10⟩ := id hSi
  rcases ix_c2 l (tS T i).1 (by omega) with hl | ⟨l, hl, rfl⟩
  · skip
    refine Ev.aload_n rfl rfl ?_
    refine Ev.getf rfl rfl (by assumption) rfl ?_
    refine Ev.iload_n rfl rfl ?_
    refine Ev.cV1 rfl rfl (by assumption) rfl rfl (by decide) ⟨(Nat.le_refl _), (Nat.le_refl _)⟩ (schoolAt_some hT hw1 hi) ?_
    refine Ev.astore rfl rfl rfl ?_
    refine Ev.aload rfl rfl ?_
    refine Ev.ifnull rfl ?_
    refine Ev.aload rfl rfl ?_
    refine Ev.iload_n rfl rfl ?_
    refine Ev.cV1 rfl rfl (by assumption) rfl rfl (by decide) ⟨(Nat.le_refl _), (Nat.le_refl _)⟩ (has_ok hSi _) ?_
    rw [has_no hl]
    refine Ev.if_ne (tgt := 27) rfl (by decide) (fun c21 => absurd rfl c21) (fun c21 => ?_)
    refine Ev.bipush (v := (-2)) rfl (by decide) ?_
    refine Ev.iret (ty := .int) rfl rfl rfl (Nat.le_refl _) (Nat.le_refl _) ?_
    rw [← hQ]
    exact ⟨by simp [K_lrn, ixd_none hl], rfl⟩
  · rcases ix_c2 w 5 (by decide) with hw5 | ⟨k, hk, rfl⟩
    · skip
      refine Ev.aload_n rfl rfl ?_
      refine Ev.getf rfl rfl (by assumption) rfl ?_
      refine Ev.iload_n rfl rfl ?_
      refine Ev.cV1 rfl rfl (by assumption) rfl rfl (by decide) ⟨(Nat.le_refl _), (Nat.le_refl _)⟩ (schoolAt_some hT hw1 hi) ?_
      refine Ev.astore rfl rfl rfl ?_
      refine Ev.aload rfl rfl ?_
      refine Ev.ifnull rfl ?_
      refine Ev.aload rfl rfl ?_
      refine Ev.iload_n rfl rfl ?_
      refine Ev.cV1 rfl rfl (by assumption) rfl rfl (by decide) ⟨(Nat.le_refl _), (Nat.le_refl _)⟩ (has_ok hSi _) ?_
      rw [has_yes hl hn16]
      refine Ev.if_ne (tgt := 27) rfl (by decide) (fun c21 => ?_) (fun c21 => absurd c21 (by decide))
      refine Ev.iload_n rfl rfl ?_
      refine Ev.tableOut (tgt := 104) rfl (sw_out (by decide) hw5) (by decide) ?_
      refine Ev.bipush (v := (-2)) rfl (by decide) ?_
      refine Ev.iret (ty := .int) rfl rfl rfl (Nat.le_refl _) (Nat.le_refl _) ?_
      rw [← hQ]
      exact ⟨by simp [K_lrn, ixd_some hl (by omega : (tS T i).1 < 2 ^ 31), ixd_none hw5], rfl⟩
    · have e5 := ixd_some hk (by decide : 5 < 2 ^ 31)
      match k, hk, e5 with
      | 0, _, e5 =>
        refine Ev.aload_n rfl rfl ?_
        refine Ev.getf rfl rfl (by assumption) rfl ?_
        refine Ev.iload_n rfl rfl ?_
        refine Ev.cV1 rfl rfl (by assumption) rfl rfl (by decide) ⟨(Nat.le_refl _), (Nat.le_refl _)⟩ (schoolAt_some hT hw1 hi) ?_
        refine Ev.astore rfl rfl rfl ?_
        refine Ev.aload rfl rfl ?_
        refine Ev.ifnull rfl ?_
        refine Ev.aload rfl rfl ?_
        refine Ev.iload_n rfl rfl ?_
        refine Ev.cV1 rfl rfl (by assumption) rfl rfl (by decide) ⟨(Nat.le_refl _), (Nat.le_refl _)⟩ (has_ok hSi _) ?_
        rw [has_yes hl hn16]
        refine Ev.if_ne (tgt := 27) rfl (by decide) (fun c21 => ?_) (fun c21 => absurd c21 (by decide))
        refine Ev.iload_n rfl rfl ?_
        refine Ev.tableIn (off := 36) (tgt := 64) rfl (by decide) (by decide) (by decide) (by decide) ?_
        refine Ev.aload rfl rfl ?_
        refine Ev.getf rfl rfl (by assumption) rfl ?_
        refine Ev.iload_n rfl rfl ?_
        refine Ev.ialdN (k := l) rfl (by assumption) rfl ⟨(by omega), by decide⟩ ?_
        refine Ev.iret (ty := .int) rfl rfl rfl (Nat.le_refl _) (Nat.le_refl _) ?_
        rw [← hQ]
        exact ⟨by simp [K_lrn, ixd_some hl (by omega : (tS T i).1 < 2 ^ 31), e5], rfl⟩
      | 1, _, e5 =>
        refine Ev.aload_n rfl rfl ?_
        refine Ev.getf rfl rfl (by assumption) rfl ?_
        refine Ev.iload_n rfl rfl ?_
        refine Ev.cV1 rfl rfl (by assumption) rfl rfl (by decide) ⟨(Nat.le_refl _), (Nat.le_refl _)⟩ (schoolAt_some hT hw1 hi) ?_
        refine Ev.astore rfl rfl rfl ?_
        refine Ev.aload rfl rfl ?_
        refine Ev.ifnull rfl ?_
        refine Ev.aload rfl rfl ?_
        refine Ev.iload_n rfl rfl ?_
        refine Ev.cV1 rfl rfl (by assumption) rfl rfl (by decide) ⟨(Nat.le_refl _), (Nat.le_refl _)⟩ (has_ok hSi _) ?_
        rw [has_yes hl hn16]
        refine Ev.if_ne (tgt := 27) rfl (by decide) (fun c21 => ?_) (fun c21 => absurd c21 (by decide))
        refine Ev.iload_n rfl rfl ?_
        refine Ev.tableIn (off := 44) (tgt := 72) rfl (by decide) (by decide) (by decide) (by decide) ?_
        refine Ev.aload rfl rfl ?_
        refine Ev.getf rfl rfl (by assumption) rfl ?_
        refine Ev.iload_n rfl rfl ?_
        refine Ev.ialdN (k := l) rfl (by assumption) rfl ⟨(by omega), by decide⟩ ?_
        refine Ev.iret (ty := .int) rfl rfl rfl (Nat.le_refl _) (Nat.le_refl _) ?_
        rw [← hQ]
        exact ⟨by simp [K_lrn, ixd_some hl (by omega : (tS T i).1 < 2 ^ 31), e5], rfl⟩
      | 2, _, e5 =>
        refine Ev.aload_n rfl rfl ?_
        refine Ev.getf rfl rfl (by assumption) rfl ?_
        refine Ev.iload_n rfl rfl ?_
        refine Ev.cV1 rfl rfl (by assumption) rfl rfl (by decide) ⟨(Nat.le_refl _), (Nat.le_refl _)⟩ (schoolAt_some hT hw1 hi) ?_
        refine Ev.astore rfl rfl rfl ?_
        refine Ev.aload rfl rfl ?_
        refine Ev.ifnull rfl ?_
        refine Ev.aload rfl rfl ?_
        refine Ev.iload_n rfl rfl ?_
        refine Ev.cV1 rfl rfl (by assumption) rfl rfl (by decide) ⟨(Nat.le_refl _), (Nat.le_refl _)⟩ (has_ok hSi _) ?_
        rw [has_yes hl hn16]
        refine Ev.if_ne (tgt := 27) rfl (by decide) (fun c21 => ?_) (fun c21 => absurd c21 (by decide))
        refine Ev.iload_n rfl rfl ?_
        refine Ev.tableIn (off := 52) (tgt := 80) rfl (by decide) (by decide) (by decide) (by decide) ?_
        refine Ev.aload rfl rfl ?_
        refine Ev.getf rfl rfl (by assumption) rfl ?_
        refine Ev.iload_n rfl rfl ?_
        refine Ev.ialdN (k := l) rfl (by assumption) rfl ⟨(by omega), by decide⟩ ?_
        refine Ev.iret (ty := .int) rfl rfl rfl (Nat.le_refl _) (Nat.le_refl _) ?_
        rw [← hQ]
        exact ⟨by simp [K_lrn, ixd_some hl (by omega : (tS T i).1 < 2 ^ 31), e5], rfl⟩
      | 3, _, e5 =>
        refine Ev.aload_n rfl rfl ?_
        refine Ev.getf rfl rfl (by assumption) rfl ?_
        refine Ev.iload_n rfl rfl ?_
        refine Ev.cV1 rfl rfl (by assumption) rfl rfl (by decide) ⟨(Nat.le_refl _), (Nat.le_refl _)⟩ (schoolAt_some hT hw1 hi) ?_
        refine Ev.astore rfl rfl rfl ?_
        refine Ev.aload rfl rfl ?_
        refine Ev.ifnull rfl ?_
        refine Ev.aload rfl rfl ?_
        refine Ev.iload_n rfl rfl ?_
        refine Ev.cV1 rfl rfl (by assumption) rfl rfl (by decide) ⟨(Nat.le_refl _), (Nat.le_refl _)⟩ (has_ok hSi _) ?_
        rw [has_yes hl hn16]
        refine Ev.if_ne (tgt := 27) rfl (by decide) (fun c21 => ?_) (fun c21 => absurd c21 (by decide))
        refine Ev.iload_n rfl rfl ?_
        refine Ev.tableIn (off := 60) (tgt := 88) rfl (by decide) (by decide) (by decide) (by decide) ?_
        refine Ev.aload rfl rfl ?_
        refine Ev.getf rfl rfl (by assumption) rfl ?_
        refine Ev.iload_n rfl rfl ?_
        refine Ev.ialdN (k := l) rfl (by assumption) rfl ⟨(by omega), by decide⟩ ?_
        refine Ev.iret (ty := .int) rfl rfl rfl (Nat.le_refl _) (Nat.le_refl _) ?_
        rw [← hQ]
        exact ⟨by simp [K_lrn, ixd_some hl (by omega : (tS T i).1 < 2 ^ 31), e5], rfl⟩
      | 4, _, e5 =>
        refine Ev.aload_n rfl rfl ?_
        refine Ev.getf rfl rfl (by assumption) rfl ?_
        refine Ev.iload_n rfl rfl ?_
        refine Ev.cV1 rfl rfl (by assumption) rfl rfl (by decide) ⟨(Nat.le_refl _), (Nat.le_refl _)⟩ (schoolAt_some hT hw1 hi) ?_
        refine Ev.astore rfl rfl rfl ?_
        refine Ev.aload rfl rfl ?_
        refine Ev.ifnull rfl ?_
        refine Ev.aload rfl rfl ?_
        refine Ev.iload_n rfl rfl ?_
        refine Ev.cV1 rfl rfl (by assumption) rfl rfl (by decide) ⟨(Nat.le_refl _), (Nat.le_refl _)⟩ (has_ok hSi _) ?_
        rw [has_yes hl hn16]
        refine Ev.if_ne (tgt := 27) rfl (by decide) (fun c21 => ?_) (fun c21 => absurd c21 (by decide))
        refine Ev.iload_n rfl rfl ?_
        refine Ev.tableIn (off := 68) (tgt := 96) rfl (by decide) (by decide) (by decide) (by decide) ?_
        refine Ev.aload rfl rfl ?_
        refine Ev.getf rfl rfl (by assumption) rfl ?_
        refine Ev.iload_n rfl rfl ?_
        refine Ev.ialdN (k := l) rfl (by assumption) rfl ⟨(by omega), by decide⟩ ?_
        refine Ev.iret (ty := .int) rfl rfl rfl (Nat.le_refl _) (Nat.le_refl _) ?_
        rw [← hQ]
        exact ⟨by simp [K_lrn, ixd_some hl (by omega : (tS T i).1 < 2 ^ 31), e5], rfl⟩
theorem learner_none (hX : isX σ x) (hT : isT σ (x + 1) T) (hw : wT T) {u : Int32} (hg : u < 0 ∨ nI (tSn T) ≤ u) (l w : Int32) : RetV Γ m_SD_learner [.ref x, .int u, .int l, .int w] σ (.int (-2)) := by
  unfold isX at hX
  obtain ⟨t0, t1, ⟨fs, t2, t3⟩, ⟨fp, t4, t5⟩, t6, t7⟩ := id hT
  unfold RetV
  generalize hQ : (fun (r : Option Value) (σ' : ex_S) => r = some ((.int (-2)) : Value) ∧ σ' = σ) = Q
  refine Ret.start pm_7 rfl ?_
  refine Ev.aload_n rfl rfl ?_
  refine Ev.getf rfl rfl (by assumption) rfl ?_
  refine Ev.iload_n rfl rfl ?_
  refine Ev.cV1 rfl rfl (by assumption) rfl rfl (by decide) ⟨(Nat.le_refl _), (Nat.le_refl _)⟩ (schoolAt_none hT hg) ?_
  refine Ev.astoreN rfl rfl rfl ?_
  refine Ev.aloadN rfl rfl ?_
  refine Ev.ifnullN (tgt := 24) rfl (by decide) ?_
  refine Ev.bipush (v := (-2)) rfl (by decide) ?_
  refine Ev.iret (ty := .int) rfl rfl rfl (Nat.le_refl _) (Nat.le_refl _) ?_
  rw [← hQ]
  exact ⟨rfl, rfl⟩
theorem m_learner_some (hM : isM σ y g A) (hT : mT A 0 T) (hw : wT T) {u : Int32} {i : Nat} (hg : u = nI i ∧ i < tSn T) (l w : Int32) : RetV Γ m_M_learner [.ref y, .int u, .int l, .int w] σ (.int (K_lrn (tS T i) l w)) := by
  obtain ⟨m0, m1⟩ := id hM
  unfold RetV
  generalize hQ : (fun (r : Option Value) (σ' : ex_S) => r = some ((.int (K_lrn (tS T i) l w)) : Value) ∧ σ' = σ) = Q
  refine Ret.start pm_194 rfl ?_
  obtain ⟨rfl, hi⟩ := hg
  have hi3 : i < 3 := by have := hw.2.1; omega
  have hwS := hw.2.2.2.1 i hi
  have hn16 := hwS.1
  have hn5 := hwS.2.1
  have hS := hT.s hi
  have hs : 610 + 120 * i + 120 ≤ 4500 := by omega
  rcases ix_c2 l (tS T i).1 (by omega) with hl | ⟨l, hl, rfl⟩
  · skip
    refine Ev.aload_n rfl rfl ?_
    refine Ev.iconst (v := 0) rfl (by decide) ?_
    refine Ev.iload_n rfl rfl ?_
    refine Ev.cV2 rfl rfl (by assumption) rfl rfl (by decide) ⟨(Nat.le_refl _), (Nat.le_refl _)⟩ (m_isOf0_yes hM hT hw hi) ?_
    refine Ev.if_eq (tgt := 38) rfl (by decide) (fun c6 => absurd c6 (by decide)) (fun c6 => ?_)
    refine Ev.iload_n rfl rfl ?_
    refine Ev.iconst (v := 0) rfl (by decide) ?_
    refine Ev.aload_n rfl rfl ?_
    refine Ev.getf rfl rfl (by assumption) rfl ?_
    refine Ev.iconst (v := 0) rfl (by decide) ?_
    refine Ev.iload_n rfl rfl ?_
    refine Ev.cS2 rfl rfl rfl (by decide) ⟨(Nat.le_refl _), (Nat.le_refl _)⟩ (m_pl0_ok i) ?_
    refine Ev.ialdN (k := 610 + 120 * i) rfl (by assumption) rfl ⟨(by omega), by decide⟩ ?_
    rw [hS.1]
    refine Ev.iconst (v := 1) rfl (by decide) ?_
    refine Ev.isub rfl ?_
    refine Ev.cS3 rfl rfl rfl (by decide) ⟨(Nat.le_refl _), (Nat.le_refl _)⟩ (m_in_ok _ _ _) ?_
    rw [K_in_no (by omega) hl]
    refine Ev.if_eq (tgt := 38) rfl (by decide) (fun c26 => ?_) (fun c26 => absurd rfl c26)
    refine Ev.bipush (v := (-2)) rfl (by decide) ?_
    refine Ev.iret (ty := .int) rfl rfl rfl (Nat.le_refl _) (Nat.le_refl _) ?_
    rw [← hQ]
    exact ⟨by simp [K_lrn, ixd_none hl], rfl⟩
  · rcases ix_c2 w 5 (by decide) with hw5 | ⟨k, hk, rfl⟩
    · skip
      refine Ev.aload_n rfl rfl ?_
      refine Ev.iconst (v := 0) rfl (by decide) ?_
      refine Ev.iload_n rfl rfl ?_
      refine Ev.cV2 rfl rfl (by assumption) rfl rfl (by decide) ⟨(Nat.le_refl _), (Nat.le_refl _)⟩ (m_isOf0_yes hM hT hw hi) ?_
      refine Ev.if_eq (tgt := 38) rfl (by decide) (fun c6 => absurd c6 (by decide)) (fun c6 => ?_)
      refine Ev.iload_n rfl rfl ?_
      refine Ev.iconst (v := 0) rfl (by decide) ?_
      refine Ev.aload_n rfl rfl ?_
      refine Ev.getf rfl rfl (by assumption) rfl ?_
      refine Ev.iconst (v := 0) rfl (by decide) ?_
      refine Ev.iload_n rfl rfl ?_
      refine Ev.cS2 rfl rfl rfl (by decide) ⟨(Nat.le_refl _), (Nat.le_refl _)⟩ (m_pl0_ok i) ?_
      refine Ev.ialdN (k := 610 + 120 * i) rfl (by assumption) rfl ⟨(by omega), by decide⟩ ?_
      rw [hS.1]
      refine Ev.iconst (v := 1) rfl (by decide) ?_
      refine Ev.isub rfl ?_
      refine Ev.cS3 rfl rfl rfl (by decide) ⟨(Nat.le_refl _), (Nat.le_refl _)⟩ (m_in_ok _ _ _) ?_
      rw [K_in_yes hl (by omega)]
      refine Ev.if_eq (tgt := 38) rfl (by decide) (fun c26 => absurd c26 (by decide)) (fun c26 => ?_)
      refine Ev.iload_n rfl rfl ?_
      refine Ev.iconst (v := 0) rfl (by decide) ?_
      refine Ev.iconst (v := 4) rfl (by decide) ?_
      refine Ev.cS3 rfl rfl rfl (by decide) ⟨(Nat.le_refl _), (Nat.le_refl _)⟩ (m_in_ok _ _ _) ?_
      rw [K_in_n (n := 5) (by decide) (by decide) hw5]
      refine Ev.if_ne (tgt := 41) rfl (by decide) (fun c35 => absurd rfl c35) (fun c35 => ?_)
      refine Ev.bipush (v := (-2)) rfl (by decide) ?_
      refine Ev.iret (ty := .int) rfl rfl rfl (Nat.le_refl _) (Nat.le_refl _) ?_
      rw [← hQ]
      exact ⟨by simp [K_lrn, ixd_some hl (by omega : (tS T i).1 < 2 ^ 31), ixd_none hw5], rfl⟩
    · have e5 := ixd_some hk (by decide : 5 < 2 ^ 31)
      have hsl := hS.2.2.2.1 l hl
      have hix : nI (610 + 120 * i) + 13 + 16 * nI k + nI l = nI (610 + 120 * i + 13 + 16 * k + l) := by
        rw [show (13 : Int32) = nI 13 from rfl, show (16 : Int32) = nI 16 from rfl, pk_mul, nI_add, nI_add, nI_add]
      have hval : A (610 + 120 * i + 13 + 16 * k + l) = (tS T i).2.2 k l := by
        match k, hk with
        | 0, _ => exact hsl.1
        | 1, _ => exact hsl.2.1
        | 2, _ => exact hsl.2.2.1
        | 3, _ => exact hsl.2.2.2.1
        | 4, _ => exact hsl.2.2.2.2
      refine Ev.aload_n rfl rfl ?_
      refine Ev.iconst (v := 0) rfl (by decide) ?_
      refine Ev.iload_n rfl rfl ?_
      refine Ev.cV2 rfl rfl (by assumption) rfl rfl (by decide) ⟨(Nat.le_refl _), (Nat.le_refl _)⟩ (m_isOf0_yes hM hT hw hi) ?_
      refine Ev.if_eq (tgt := 38) rfl (by decide) (fun c6 => absurd c6 (by decide)) (fun c6 => ?_)
      refine Ev.iload_n rfl rfl ?_
      refine Ev.iconst (v := 0) rfl (by decide) ?_
      refine Ev.aload_n rfl rfl ?_
      refine Ev.getf rfl rfl (by assumption) rfl ?_
      refine Ev.iconst (v := 0) rfl (by decide) ?_
      refine Ev.iload_n rfl rfl ?_
      refine Ev.cS2 rfl rfl rfl (by decide) ⟨(Nat.le_refl _), (Nat.le_refl _)⟩ (m_pl0_ok i) ?_
      refine Ev.ialdN (k := 610 + 120 * i) rfl (by assumption) rfl ⟨(by omega), by decide⟩ ?_
      rw [hS.1]
      refine Ev.iconst (v := 1) rfl (by decide) ?_
      refine Ev.isub rfl ?_
      refine Ev.cS3 rfl rfl rfl (by decide) ⟨(Nat.le_refl _), (Nat.le_refl _)⟩ (m_in_ok _ _ _) ?_
      rw [K_in_yes hl (by omega)]
      refine Ev.if_eq (tgt := 38) rfl (by decide) (fun c26 => absurd c26 (by decide)) (fun c26 => ?_)
      refine Ev.iload_n rfl rfl ?_
      refine Ev.iconst (v := 0) rfl (by decide) ?_
      refine Ev.iconst (v := 4) rfl (by decide) ?_
      refine Ev.cS3 rfl rfl rfl (by decide) ⟨(Nat.le_refl _), (Nat.le_refl _)⟩ (m_in_ok _ _ _) ?_
      rw [K_in_y (n := 5) (by decide) (by decide) hk]
      refine Ev.if_ne (tgt := 41) rfl (by decide) (fun c35 => ?_) (fun c35 => absurd c35 (by decide))
      refine Ev.aload_n rfl rfl ?_
      refine Ev.getf rfl rfl (by assumption) rfl ?_
      refine Ev.iconst (v := 0) rfl (by decide) ?_
      refine Ev.iload_n rfl rfl ?_
      refine Ev.cS2 rfl rfl rfl (by decide) ⟨(Nat.le_refl _), (Nat.le_refl _)⟩ (m_pl0_ok i) ?_
      refine Ev.bipush (v := 13) rfl (by decide) ?_
      refine Ev.iadd rfl ?_
      refine Ev.bipush (v := 16) rfl (by decide) ?_
      refine Ev.iload_n rfl rfl ?_
      refine Ev.imul rfl ?_
      refine Ev.iadd rfl ?_
      refine Ev.iload_n rfl rfl ?_
      refine Ev.iadd rfl ?_
      refine Ev.ialdN (k := 610 + 120 * i + 13 + 16 * k + l) rfl (by assumption) hix ⟨(by omega), by decide⟩ ?_
      rw [hval]
      refine Ev.iret (ty := .int) rfl rfl rfl (Nat.le_refl _) (Nat.le_refl _) ?_
      rw [← hQ]
      exact ⟨by simp [K_lrn, ixd_some hl (by omega : (tS T i).1 < 2 ^ 31), e5], rfl⟩
theorem m_learner_none (hM : isM σ y g A) (hT : mT A 0 T) (hw : wT T) {u : Int32} (hg : u < 0 ∨ nI (tSn T) ≤ u) (l w : Int32) : RetV Γ m_M_learner [.ref y, .int u, .int l, .int w] σ (.int (-2)) := by
  obtain ⟨m0, m1⟩ := id hM
  unfold RetV
  generalize hQ : (fun (r : Option Value) (σ' : ex_S) => r = some ((.int (-2)) : Value) ∧ σ' = σ) = Q
  refine Ret.start pm_194 rfl ?_
  refine Ev.aload_n rfl rfl ?_
  refine Ev.iconst (v := 0) rfl (by decide) ?_
  refine Ev.iload_n rfl rfl ?_
  refine Ev.cV2 rfl rfl (by assumption) rfl rfl (by decide) ⟨(Nat.le_refl _), (Nat.le_refl _)⟩ (m_isOf0_no hM hT hw hg) ?_
  refine Ev.if_eq (tgt := 38) rfl (by decide) (fun c6 => ?_) (fun c6 => absurd rfl c6)
  refine Ev.bipush (v := (-2)) rfl (by decide) ?_
  refine Ev.iret (ty := .int) rfl rfl rfl (Nat.le_refl _) (Nat.le_refl _) ?_
  rw [← hQ]
  exact ⟨rfl, rfl⟩
theorem plan_some (hX : isX σ x) (hT : isT σ (x + 1) T) (hw : wT T) {v : Int32} {j : Nat} (hg : v = nI j ∧ j < tPn T) (k w : Int32) : RetV Γ m_SD_plan [.ref x, .int v, .int k, .int w] σ (.int (K_plan (tP T j) k w)) := by
  unfold isX at hX
  obtain ⟨t0, t1, ⟨fs, t2, t3⟩, ⟨fp, t4, t5⟩, t6, t7⟩ := id hT
  unfold RetV
  generalize hQ : (fun (r : Option Value) (σ' : ex_S) => r = some ((.int (K_plan (tP T j) k w)) : Value) ∧ σ' = σ) = Q
  refine Ret.start pm_8 rfl ?_
  obtain ⟨rfl, hj⟩ := hg
  have hw2 := hw.2.2.1
  have hwP := hw.2.2.2.2 j hj
  have h6 := hwP.1
  have hPj := t7 j (by omega)
  obtain ⟨p0, ⟨pf, p1, p2⟩, p3⟩ := id hPj
  rcases ix_c2 k (tP T j).1 (by omega) with hk | ⟨k, hk, rfl⟩
  · skip
    refine Ev.aload_n rfl rfl ?_
    refine Ev.getf rfl rfl (by assumption) rfl ?_
    refine Ev.iload_n rfl rfl ?_
    refine Ev.cV1 rfl rfl (by assumption) rfl rfl (by decide) ⟨(Nat.le_refl _), (Nat.le_refl _)⟩ (planAt_some hT hw2 hj) ?_
    refine Ev.astore rfl rfl rfl ?_
    refine Ev.aload rfl rfl ?_
    refine Ev.ifnull rfl ?_
    refine Ev.iload_n rfl rfl ?_
    refine Ev.iconst (v := (-1)) rfl (by decide) ?_
    refine Ev.icmp_ne (tgt := 30) rfl (by decide) (fun c17 => ?_) (fun c17 => ?_)
    · skip
      refine Ev.aload rfl rfl ?_
      refine Ev.iload_n rfl rfl ?_
      refine Ev.cS2 rfl rfl rfl (by decide) ⟨(Nat.le_refl _), (Nat.le_refl _)⟩ (lessonOf_none hPj hk) ?_
      refine Ev.astoreN rfl rfl rfl ?_
      refine Ev.aloadN rfl rfl ?_
      refine Ev.ifnonnullN rfl ?_
      refine Ev.bipush (v := (-2)) rfl (by decide) ?_
      refine Ev.iret (ty := .int) rfl rfl rfl (Nat.le_refl _) (Nat.le_refl _) ?_
      rw [← hQ]
      exact ⟨by simp [K_plan, ixd_none hk, *], rfl⟩
    · skip
      refine Ev.iload_n rfl rfl ?_
      refine Ev.if_ne (tgt := 30) rfl (by decide) (fun c21 => ?_) (fun c21 => ?_)
      · skip
        refine Ev.aload rfl rfl ?_
        refine Ev.iload_n rfl rfl ?_
        refine Ev.cS2 rfl rfl rfl (by decide) ⟨(Nat.le_refl _), (Nat.le_refl _)⟩ (lessonOf_none hPj hk) ?_
        refine Ev.astoreN rfl rfl rfl ?_
        refine Ev.aloadN rfl rfl ?_
        refine Ev.ifnonnullN rfl ?_
        refine Ev.bipush (v := (-2)) rfl (by decide) ?_
        refine Ev.iret (ty := .int) rfl rfl rfl (Nat.le_refl _) (Nat.le_refl _) ?_
        rw [← hQ]
        exact ⟨by simp [K_plan, ixd_none hk, *], rfl⟩
      · skip
        refine Ev.aload rfl rfl ?_
        refine Ev.getf rfl rfl (by assumption) rfl ?_
        refine Ev.iret (ty := .int) rfl rfl rfl (Nat.le_refl _) (Nat.le_refl _) ?_
        rw [← hQ]
        exact ⟨by simp [K_plan, ixd_none hk, *], rfl⟩
  · have hk1 := nI_ne_neg1 (k := k) (by omega)
    have hLk2 := p3 k (by omega)
    unfold isL at hLk2
    rcases ix_c2 w 6 (by decide) with hw5 | ⟨q, hq, rfl⟩
    · skip
      refine Ev.aload_n rfl rfl ?_
      refine Ev.getf rfl rfl (by assumption) rfl ?_
      refine Ev.iload_n rfl rfl ?_
      refine Ev.cV1 rfl rfl (by assumption) rfl rfl (by decide) ⟨(Nat.le_refl _), (Nat.le_refl _)⟩ (planAt_some hT hw2 hj) ?_
      refine Ev.astore rfl rfl rfl ?_
      refine Ev.aload rfl rfl ?_
      refine Ev.ifnull rfl ?_
      refine Ev.iload_n rfl rfl ?_
      refine Ev.iconst (v := (-1)) rfl (by decide) ?_
      refine Ev.icmp_ne (tgt := 30) rfl (by decide) (fun c17 => ?_) (fun c17 => absurd c17 hk1)
      refine Ev.aload rfl rfl ?_
      refine Ev.iload_n rfl rfl ?_
      refine Ev.cS2 rfl rfl rfl (by decide) ⟨(Nat.le_refl _), (Nat.le_refl _)⟩ (lessonOf_some hPj h6 hk) ?_
      refine Ev.astore rfl rfl rfl ?_
      refine Ev.aload rfl rfl ?_
      refine Ev.ifnonnull (tgt := 46) rfl (by decide) ?_
      refine Ev.iload_n rfl rfl ?_
      refine Ev.tableOut (tgt := 120) rfl (sw_out (by decide) hw5) (by decide) ?_
      refine Ev.bipush (v := (-2)) rfl (by decide) ?_
      refine Ev.iret (ty := .int) rfl rfl rfl (Nat.le_refl _) (Nat.le_refl _) ?_
      rw [← hQ]
      exact ⟨by simp [K_plan, hk1, ixd_some hk (by omega : (tP T j).1 < 2 ^ 31), ixd_none hw5], rfl⟩
    · have e6 := ixd_some hq (by decide : 6 < 2 ^ 31)
      match q, hq, e6 with
      | 0, _, e6 =>
        refine Ev.aload_n rfl rfl ?_
        refine Ev.getf rfl rfl (by assumption) rfl ?_
        refine Ev.iload_n rfl rfl ?_
        refine Ev.cV1 rfl rfl (by assumption) rfl rfl (by decide) ⟨(Nat.le_refl _), (Nat.le_refl _)⟩ (planAt_some hT hw2 hj) ?_
        refine Ev.astore rfl rfl rfl ?_
        refine Ev.aload rfl rfl ?_
        refine Ev.ifnull rfl ?_
        refine Ev.iload_n rfl rfl ?_
        refine Ev.iconst (v := (-1)) rfl (by decide) ?_
        refine Ev.icmp_ne (tgt := 30) rfl (by decide) (fun c17 => ?_) (fun c17 => absurd c17 hk1)
        refine Ev.aload rfl rfl ?_
        refine Ev.iload_n rfl rfl ?_
        refine Ev.cS2 rfl rfl rfl (by decide) ⟨(Nat.le_refl _), (Nat.le_refl _)⟩ (lessonOf_some hPj h6 hk) ?_
        refine Ev.astore rfl rfl rfl ?_
        refine Ev.aload rfl rfl ?_
        refine Ev.ifnonnull (tgt := 46) rfl (by decide) ?_
        refine Ev.iload_n rfl rfl ?_
        refine Ev.tableIn (off := 37) (tgt := 84) rfl (by decide) (by decide) (by decide) (by decide) ?_
        refine Ev.aload rfl rfl ?_
        refine Ev.getf rfl rfl (by assumption) rfl ?_
        refine Ev.iret (ty := .int) rfl rfl rfl (Nat.le_refl _) (Nat.le_refl _) ?_
        rw [← hQ]
        exact ⟨by simp [K_plan, hk1, ixd_some hk (by omega : (tP T j).1 < 2 ^ 31), e6], rfl⟩
      | 1, _, e6 =>
        refine Ev.aload_n rfl rfl ?_
        refine Ev.getf rfl rfl (by assumption) rfl ?_
        refine Ev.iload_n rfl rfl ?_
        refine Ev.cV1 rfl rfl (by assumption) rfl rfl (by decide) ⟨(Nat.le_refl _), (Nat.le_refl _)⟩ (planAt_some hT hw2 hj) ?_
        refine Ev.astore rfl rfl rfl ?_
        refine Ev.aload rfl rfl ?_
        refine Ev.ifnull rfl ?_
        refine Ev.iload_n rfl rfl ?_
        refine Ev.iconst (v := (-1)) rfl (by decide) ?_
        refine Ev.icmp_ne (tgt := 30) rfl (by decide) (fun c17 => ?_) (fun c17 => absurd c17 hk1)
        refine Ev.aload rfl rfl ?_
        refine Ev.iload_n rfl rfl ?_
        refine Ev.cS2 rfl rfl rfl (by decide) ⟨(Nat.le_refl _), (Nat.le_refl _)⟩ (lessonOf_some hPj h6 hk) ?_
        refine Ev.astore rfl rfl rfl ?_
        refine Ev.aload rfl rfl ?_
        refine Ev.ifnonnull (tgt := 46) rfl (by decide) ?_
        refine Ev.iload_n rfl rfl ?_
        refine Ev.tableIn (off := 43) (tgt := 90) rfl (by decide) (by decide) (by decide) (by decide) ?_
        refine Ev.aload rfl rfl ?_
        refine Ev.getf rfl rfl (by assumption) rfl ?_
        refine Ev.iret (ty := .int) rfl rfl rfl (Nat.le_refl _) (Nat.le_refl _) ?_
        rw [← hQ]
        exact ⟨by simp [K_plan, hk1, ixd_some hk (by omega : (tP T j).1 < 2 ^ 31), e6], rfl⟩
      | 2, _, e6 =>
        refine Ev.aload_n rfl rfl ?_
        refine Ev.getf rfl rfl (by assumption) rfl ?_
        refine Ev.iload_n rfl rfl ?_
        refine Ev.cV1 rfl rfl (by assumption) rfl rfl (by decide) ⟨(Nat.le_refl _), (Nat.le_refl _)⟩ (planAt_some hT hw2 hj) ?_
        refine Ev.astore rfl rfl rfl ?_
        refine Ev.aload rfl rfl ?_
        refine Ev.ifnull rfl ?_
        refine Ev.iload_n rfl rfl ?_
        refine Ev.iconst (v := (-1)) rfl (by decide) ?_
        refine Ev.icmp_ne (tgt := 30) rfl (by decide) (fun c17 => ?_) (fun c17 => absurd c17 hk1)
        refine Ev.aload rfl rfl ?_
        refine Ev.iload_n rfl rfl ?_
        refine Ev.cS2 rfl rfl rfl (by decide) ⟨(Nat.le_refl _), (Nat.le_refl _)⟩ (lessonOf_some hPj h6 hk) ?_
        refine Ev.astore rfl rfl rfl ?_
        refine Ev.aload rfl rfl ?_
        refine Ev.ifnonnull (tgt := 46) rfl (by decide) ?_
        refine Ev.iload_n rfl rfl ?_
        refine Ev.tableIn (off := 49) (tgt := 96) rfl (by decide) (by decide) (by decide) (by decide) ?_
        refine Ev.aload rfl rfl ?_
        refine Ev.getf rfl rfl (by assumption) rfl ?_
        refine Ev.iret (ty := .int) rfl rfl rfl (Nat.le_refl _) (Nat.le_refl _) ?_
        rw [← hQ]
        exact ⟨by simp [K_plan, hk1, ixd_some hk (by omega : (tP T j).1 < 2 ^ 31), e6], rfl⟩
      | 3, _, e6 =>
        refine Ev.aload_n rfl rfl ?_
        refine Ev.getf rfl rfl (by assumption) rfl ?_
        refine Ev.iload_n rfl rfl ?_
        refine Ev.cV1 rfl rfl (by assumption) rfl rfl (by decide) ⟨(Nat.le_refl _), (Nat.le_refl _)⟩ (planAt_some hT hw2 hj) ?_
        refine Ev.astore rfl rfl rfl ?_
        refine Ev.aload rfl rfl ?_
        refine Ev.ifnull rfl ?_
        refine Ev.iload_n rfl rfl ?_
        refine Ev.iconst (v := (-1)) rfl (by decide) ?_
        refine Ev.icmp_ne (tgt := 30) rfl (by decide) (fun c17 => ?_) (fun c17 => absurd c17 hk1)
        refine Ev.aload rfl rfl ?_
        refine Ev.iload_n rfl rfl ?_
        refine Ev.cS2 rfl rfl rfl (by decide) ⟨(Nat.le_refl _), (Nat.le_refl _)⟩ (lessonOf_some hPj h6 hk) ?_
        refine Ev.astore rfl rfl rfl ?_
        refine Ev.aload rfl rfl ?_
        refine Ev.ifnonnull (tgt := 46) rfl (by decide) ?_
        refine Ev.iload_n rfl rfl ?_
        refine Ev.tableIn (off := 55) (tgt := 102) rfl (by decide) (by decide) (by decide) (by decide) ?_
        refine Ev.aload rfl rfl ?_
        refine Ev.getf rfl rfl (by assumption) rfl ?_
        refine Ev.iret (ty := .int) rfl rfl rfl (Nat.le_refl _) (Nat.le_refl _) ?_
        rw [← hQ]
        exact ⟨by simp [K_plan, hk1, ixd_some hk (by omega : (tP T j).1 < 2 ^ 31), e6], rfl⟩
      | 4, _, e6 =>
        refine Ev.aload_n rfl rfl ?_
        refine Ev.getf rfl rfl (by assumption) rfl ?_
        refine Ev.iload_n rfl rfl ?_
        refine Ev.cV1 rfl rfl (by assumption) rfl rfl (by decide) ⟨(Nat.le_refl _), (Nat.le_refl _)⟩ (planAt_some hT hw2 hj) ?_
        refine Ev.astore rfl rfl rfl ?_
        refine Ev.aload rfl rfl ?_
        refine Ev.ifnull rfl ?_
        refine Ev.iload_n rfl rfl ?_
        refine Ev.iconst (v := (-1)) rfl (by decide) ?_
        refine Ev.icmp_ne (tgt := 30) rfl (by decide) (fun c17 => ?_) (fun c17 => absurd c17 hk1)
        refine Ev.aload rfl rfl ?_
        refine Ev.iload_n rfl rfl ?_
        refine Ev.cS2 rfl rfl rfl (by decide) ⟨(Nat.le_refl _), (Nat.le_refl _)⟩ (lessonOf_some hPj h6 hk) ?_
        refine Ev.astore rfl rfl rfl ?_
        refine Ev.aload rfl rfl ?_
        refine Ev.ifnonnull (tgt := 46) rfl (by decide) ?_
        refine Ev.iload_n rfl rfl ?_
        refine Ev.tableIn (off := 61) (tgt := 108) rfl (by decide) (by decide) (by decide) (by decide) ?_
        refine Ev.aload rfl rfl ?_
        refine Ev.getf rfl rfl (by assumption) rfl ?_
        refine Ev.iret (ty := .int) rfl rfl rfl (Nat.le_refl _) (Nat.le_refl _) ?_
        rw [← hQ]
        exact ⟨by simp [K_plan, hk1, ixd_some hk (by omega : (tP T j).1 < 2 ^ 31), e6], rfl⟩
      | 5, _, e6 =>
        refine Ev.aload_n rfl rfl ?_
        refine Ev.getf rfl rfl (by assumption) rfl ?_
        refine Ev.iload_n rfl rfl ?_
        refine Ev.cV1 rfl rfl (by assumption) rfl rfl (by decide) ⟨(Nat.le_refl _), (Nat.le_refl _)⟩ (planAt_some hT hw2 hj) ?_
        refine Ev.astore rfl rfl rfl ?_
        refine Ev.aload rfl rfl ?_
        refine Ev.ifnull rfl ?_
        refine Ev.iload_n rfl rfl ?_
        refine Ev.iconst (v := (-1)) rfl (by decide) ?_
        refine Ev.icmp_ne (tgt := 30) rfl (by decide) (fun c17 => ?_) (fun c17 => absurd c17 hk1)
        refine Ev.aload rfl rfl ?_
        refine Ev.iload_n rfl rfl ?_
        refine Ev.cS2 rfl rfl rfl (by decide) ⟨(Nat.le_refl _), (Nat.le_refl _)⟩ (lessonOf_some hPj h6 hk) ?_
        refine Ev.astore rfl rfl rfl ?_
        refine Ev.aload rfl rfl ?_
        refine Ev.ifnonnull (tgt := 46) rfl (by decide) ?_
        refine Ev.iload_n rfl rfl ?_
        refine Ev.tableIn (off := 67) (tgt := 114) rfl (by decide) (by decide) (by decide) (by decide) ?_
        refine Ev.aload rfl rfl ?_
        refine Ev.getf rfl rfl (by assumption) rfl ?_
        refine Ev.iret (ty := .int) rfl rfl rfl (Nat.le_refl _) (Nat.le_refl _) ?_
        rw [← hQ]
        exact ⟨by simp [K_plan, hk1, ixd_some hk (by omega : (tP T j).1 < 2 ^ 31), e6], rfl⟩
theorem plan_none (hX : isX σ x) (hT : isT σ (x + 1) T) (hw : wT T) {v : Int32} (hg : v < 0 ∨ nI (tPn T) ≤ v) (k w : Int32) : RetV Γ m_SD_plan [.ref x, .int v, .int k, .int w] σ (.int (-2)) := by
  unfold isX at hX
  obtain ⟨t0, t1, ⟨fs, t2, t3⟩, ⟨fp, t4, t5⟩, t6, t7⟩ := id hT
  unfold RetV
  generalize hQ : (fun (r : Option Value) (σ' : ex_S) => r = some ((.int (-2)) : Value) ∧ σ' = σ) = Q
  refine Ret.start pm_8 rfl ?_
  refine Ev.aload_n rfl rfl ?_
  refine Ev.getf rfl rfl (by assumption) rfl ?_
  refine Ev.iload_n rfl rfl ?_
  refine Ev.cV1 rfl rfl (by assumption) rfl rfl (by decide) ⟨(Nat.le_refl _), (Nat.le_refl _)⟩ (planAt_none hT hg) ?_
  refine Ev.astoreN rfl rfl rfl ?_
  refine Ev.aloadN rfl rfl ?_
  refine Ev.ifnullN (tgt := 30) rfl (by decide) ?_
  refine Ev.aloadN rfl rfl ?_
  refine Ev.iload_n rfl rfl ?_
  refine Ev.cS2 rfl rfl rfl (by decide) ⟨(Nat.le_refl _), (Nat.le_refl _)⟩ (lessonOf_null _) ?_
  refine Ev.astoreN rfl rfl rfl ?_
  refine Ev.aloadN rfl rfl ?_
  refine Ev.ifnonnullN rfl ?_
  refine Ev.bipush (v := (-2)) rfl (by decide) ?_
  refine Ev.iret (ty := .int) rfl rfl rfl (Nat.le_refl _) (Nat.le_refl _) ?_
  rw [← hQ]
  exact ⟨rfl, rfl⟩
theorem m_isClass_yes (hM : isM σ y g A) (hT : mT A 0 T) (hw : wT T) {v : Int32} {j : Nat} (hg : v = nI j ∧ j < tPn T) {k : Nat} (hk : k < (tP T j).1) : RetV Γ m_M_isClass [.ref y, .int v, .int (nI k)] σ (.int (1)) := by
  obtain ⟨m0, m1⟩ := id hM
  unfold RetV
  generalize hQ : (fun (r : Option Value) (σ' : ex_S) => r = some ((.int (1)) : Value) ∧ σ' = σ) = Q
  refine Ret.start pm_196 rfl ?_
  obtain ⟨rfl, hj⟩ := hg
  have hj3 : j < 3 := by have := hw.2.2.1; omega
  have hwP := hw.2.2.2.2 j hj
  have h6 := hwP.1
  have hP := hT.p hj
  refine Ev.aload_n rfl rfl ?_
  refine Ev.iconst (v := 1) rfl (by decide) ?_
  refine Ev.iload_n rfl rfl ?_
  refine Ev.cV2 rfl rfl (by assumption) rfl rfl (by decide) ⟨(Nat.le_refl _), (Nat.le_refl _)⟩ (m_isOf1_yes hM hT hw hj) ?_
  refine Ev.if_eq (tgt := 33) rfl (by decide) (fun c6 => absurd c6 (by decide)) (fun c6 => ?_)
  refine Ev.iload_n rfl rfl ?_
  refine Ev.iconst (v := 0) rfl (by decide) ?_
  refine Ev.aload_n rfl rfl ?_
  refine Ev.getf rfl rfl (by assumption) rfl ?_
  refine Ev.iconst (v := 1) rfl (by decide) ?_
  refine Ev.iload_n rfl rfl ?_
  refine Ev.cS2 rfl rfl rfl (by decide) ⟨(Nat.le_refl _), (Nat.le_refl _)⟩ (m_pl1_ok j) ?_
  refine Ev.ialdN (k := 970 + 40 * j) rfl (by assumption) rfl ⟨(by omega), by decide⟩ ?_
  rw [hP.1]
  refine Ev.iconst (v := 1) rfl (by decide) ?_
  refine Ev.isub rfl ?_
  refine Ev.cS3 rfl rfl rfl (by decide) ⟨(Nat.le_refl _), (Nat.le_refl _)⟩ (m_in_ok _ _ _) ?_
  rw [K_in_yes hk (by omega)]
  refine Ev.if_eq (tgt := 33) rfl (by decide) (fun c26 => absurd c26 (by decide)) (fun c26 => ?_)
  refine Ev.iconst (v := 1) rfl (by decide) ?_
  refine Ev.goto (tgt := 34) rfl (by decide) ?_
  refine Ev.iret (ty := .boolean) rfl rfl rfl (Nat.le_refl _) (Nat.le_refl _) ?_
  rw [← hQ]
  exact ⟨rfl, rfl⟩
theorem m_isClass_no (hM : isM σ y g A) (hT : mT A 0 T) (hw : wT T) {v : Int32} {j : Nat} (hg : v = nI j ∧ j < tPn T) {k : Int32} (hk : k < 0 ∨ nI (tP T j).1 ≤ k) : RetV Γ m_M_isClass [.ref y, .int v, .int k] σ (.int (0)) := by
  obtain ⟨m0, m1⟩ := id hM
  unfold RetV
  generalize hQ : (fun (r : Option Value) (σ' : ex_S) => r = some ((.int (0)) : Value) ∧ σ' = σ) = Q
  refine Ret.start pm_196 rfl ?_
  obtain ⟨rfl, hj⟩ := hg
  have hj3 : j < 3 := by have := hw.2.2.1; omega
  have hwP := hw.2.2.2.2 j hj
  have h6 := hwP.1
  have hP := hT.p hj
  refine Ev.aload_n rfl rfl ?_
  refine Ev.iconst (v := 1) rfl (by decide) ?_
  refine Ev.iload_n rfl rfl ?_
  refine Ev.cV2 rfl rfl (by assumption) rfl rfl (by decide) ⟨(Nat.le_refl _), (Nat.le_refl _)⟩ (m_isOf1_yes hM hT hw hj) ?_
  refine Ev.if_eq (tgt := 33) rfl (by decide) (fun c6 => absurd c6 (by decide)) (fun c6 => ?_)
  refine Ev.iload_n rfl rfl ?_
  refine Ev.iconst (v := 0) rfl (by decide) ?_
  refine Ev.aload_n rfl rfl ?_
  refine Ev.getf rfl rfl (by assumption) rfl ?_
  refine Ev.iconst (v := 1) rfl (by decide) ?_
  refine Ev.iload_n rfl rfl ?_
  refine Ev.cS2 rfl rfl rfl (by decide) ⟨(Nat.le_refl _), (Nat.le_refl _)⟩ (m_pl1_ok j) ?_
  refine Ev.ialdN (k := 970 + 40 * j) rfl (by assumption) rfl ⟨(by omega), by decide⟩ ?_
  rw [hP.1]
  refine Ev.iconst (v := 1) rfl (by decide) ?_
  refine Ev.isub rfl ?_
  refine Ev.cS3 rfl rfl rfl (by decide) ⟨(Nat.le_refl _), (Nat.le_refl _)⟩ (m_in_ok _ _ _) ?_
  rw [K_in_no (by omega) hk]
  refine Ev.if_eq (tgt := 33) rfl (by decide) (fun c26 => ?_) (fun c26 => absurd rfl c26)
  refine Ev.iconst (v := 0) rfl (by decide) ?_
  refine Ev.iret (ty := .boolean) rfl rfl rfl (Nat.le_refl _) (Nat.le_refl _) ?_
  rw [← hQ]
  exact ⟨rfl, rfl⟩
theorem m_plan_some (hM : isM σ y g A) (hT : mT A 0 T) (hw : wT T) {v : Int32} {j : Nat} (hg : v = nI j ∧ j < tPn T) (k w : Int32) : RetV Γ m_M_plan [.ref y, .int v, .int k, .int w] σ (.int (K_plan (tP T j) k w)) := by
  obtain ⟨m0, m1⟩ := id hM
  unfold RetV
  generalize hQ : (fun (r : Option Value) (σ' : ex_S) => r = some ((.int (K_plan (tP T j) k w)) : Value) ∧ σ' = σ) = Q
  refine Ret.start pm_197 rfl ?_
  obtain ⟨rfl, hj⟩ := hg
  have hj3 : j < 3 := by have := hw.2.2.1; omega
  have hwP := hw.2.2.2.2 j hj
  have h6 := hwP.1
  have hP := hT.p hj
  by_cases hk0 : k = -1
  · subst hk0
    refine Ev.aload_n rfl rfl ?_
    refine Ev.iconst (v := 1) rfl (by decide) ?_
    refine Ev.iload_n rfl rfl ?_
    refine Ev.cV2 rfl rfl (by assumption) rfl rfl (by decide) ⟨(Nat.le_refl _), (Nat.le_refl _)⟩ (m_isOf1_yes hM hT hw hj) ?_
    refine Ev.if_ne (tgt := 12) rfl (by decide) (fun c6 => ?_) (fun c6 => absurd c6 (by decide))
    refine Ev.iload_n rfl rfl ?_
    refine Ev.iconst (v := (-1)) rfl (by decide) ?_
    refine Ev.icmp_ne (tgt := 37) rfl (by decide) (fun c14 => absurd rfl c14) (fun c14 => ?_)
    refine Ev.iload_n rfl rfl ?_
    refine Ev.if_ne (tgt := 34) rfl (by decide) (fun c18 => ?_) (fun c18 => ?_)
    · skip
      refine Ev.bipush (v := (-2)) rfl (by decide) ?_
      refine Ev.iret (ty := .int) rfl rfl rfl (Nat.le_refl _) (Nat.le_refl _) ?_
      rw [← hQ]
      exact ⟨by simp [K_plan, *], rfl⟩
    · skip
      refine Ev.aload_n rfl rfl ?_
      refine Ev.getf rfl rfl (by assumption) rfl ?_
      refine Ev.iconst (v := 1) rfl (by decide) ?_
      refine Ev.iload_n rfl rfl ?_
      refine Ev.cS2 rfl rfl rfl (by decide) ⟨(Nat.le_refl _), (Nat.le_refl _)⟩ (m_pl1_ok j) ?_
      refine Ev.ialdN (k := 970 + 40 * j) rfl (by assumption) rfl ⟨(by omega), by decide⟩ ?_
      rw [hP.1]
      refine Ev.goto (tgt := 36) rfl (by decide) ?_
      refine Ev.iret (ty := .int) rfl rfl rfl (Nat.le_refl _) (Nat.le_refl _) ?_
      rw [← hQ]
      exact ⟨by simp [K_plan, *], rfl⟩
  rcases ix_c2 k (tP T j).1 (by omega) with hk | ⟨k, hk, rfl⟩
  · skip
    refine Ev.aload_n rfl rfl ?_
    refine Ev.iconst (v := 1) rfl (by decide) ?_
    refine Ev.iload_n rfl rfl ?_
    refine Ev.cV2 rfl rfl (by assumption) rfl rfl (by decide) ⟨(Nat.le_refl _), (Nat.le_refl _)⟩ (m_isOf1_yes hM hT hw hj) ?_
    refine Ev.if_ne (tgt := 12) rfl (by decide) (fun c6 => ?_) (fun c6 => absurd c6 (by decide))
    refine Ev.iload_n rfl rfl ?_
    refine Ev.iconst (v := (-1)) rfl (by decide) ?_
    refine Ev.icmp_ne (tgt := 37) rfl (by decide) (fun c14 => ?_) (fun c14 => absurd c14 hk0)
    refine Ev.aload_n rfl rfl ?_
    refine Ev.iload_n rfl rfl ?_
    refine Ev.iload_n rfl rfl ?_
    refine Ev.cV2 rfl rfl (by assumption) rfl rfl (by decide) ⟨(Nat.le_refl _), (Nat.le_refl _)⟩ (m_isClass_no hM hT hw ⟨rfl, hj⟩ hk) ?_
    refine Ev.if_eq (tgt := 71) rfl (by decide) (fun c43 => ?_) (fun c43 => absurd rfl c43)
    refine Ev.bipush (v := (-2)) rfl (by decide) ?_
    refine Ev.iret (ty := .int) rfl rfl rfl (Nat.le_refl _) (Nat.le_refl _) ?_
    rw [← hQ]
    exact ⟨by simp [K_plan, hk0, ixd_none hk], rfl⟩
  · rcases ix_c2 w 6 (by decide) with hw5 | ⟨q, hq, rfl⟩
    · skip
      refine Ev.aload_n rfl rfl ?_
      refine Ev.iconst (v := 1) rfl (by decide) ?_
      refine Ev.iload_n rfl rfl ?_
      refine Ev.cV2 rfl rfl (by assumption) rfl rfl (by decide) ⟨(Nat.le_refl _), (Nat.le_refl _)⟩ (m_isOf1_yes hM hT hw hj) ?_
      refine Ev.if_ne (tgt := 12) rfl (by decide) (fun c6 => ?_) (fun c6 => absurd c6 (by decide))
      refine Ev.iload_n rfl rfl ?_
      refine Ev.iconst (v := (-1)) rfl (by decide) ?_
      refine Ev.icmp_ne (tgt := 37) rfl (by decide) (fun c14 => ?_) (fun c14 => absurd c14 hk0)
      refine Ev.aload_n rfl rfl ?_
      refine Ev.iload_n rfl rfl ?_
      refine Ev.iload_n rfl rfl ?_
      refine Ev.cV2 rfl rfl (by assumption) rfl rfl (by decide) ⟨(Nat.le_refl _), (Nat.le_refl _)⟩ (m_isClass_yes hM hT hw ⟨rfl, hj⟩ hk) ?_
      refine Ev.if_eq (tgt := 71) rfl (by decide) (fun c43 => absurd c43 (by decide)) (fun c43 => ?_)
      refine Ev.iload_n rfl rfl ?_
      refine Ev.iconst (v := 0) rfl (by decide) ?_
      refine Ev.iconst (v := 5) rfl (by decide) ?_
      refine Ev.cS3 rfl rfl rfl (by decide) ⟨(Nat.le_refl _), (Nat.le_refl _)⟩ (m_in_ok _ _ _) ?_
      rw [K_in_n (n := 6) (by decide) (by decide) hw5]
      refine Ev.if_eq (tgt := 71) rfl (by decide) (fun c52 => ?_) (fun c52 => absurd rfl c52)
      refine Ev.bipush (v := (-2)) rfl (by decide) ?_
      refine Ev.iret (ty := .int) rfl rfl rfl (Nat.le_refl _) (Nat.le_refl _) ?_
      rw [← hQ]
      exact ⟨by simp [K_plan, hk0, ixd_some hk (by omega : (tP T j).1 < 2 ^ 31), ixd_none hw5], rfl⟩
    · have e6 := ixd_some hq (by decide : 6 < 2 ^ 31)
      refine Ev.aload_n rfl rfl ?_
      refine Ev.iconst (v := 1) rfl (by decide) ?_
      refine Ev.iload_n rfl rfl ?_
      refine Ev.cV2 rfl rfl (by assumption) rfl rfl (by decide) ⟨(Nat.le_refl _), (Nat.le_refl _)⟩ (m_isOf1_yes hM hT hw hj) ?_
      refine Ev.if_ne (tgt := 12) rfl (by decide) (fun c6 => ?_) (fun c6 => absurd c6 (by decide))
      refine Ev.iload_n rfl rfl ?_
      refine Ev.iconst (v := (-1)) rfl (by decide) ?_
      refine Ev.icmp_ne (tgt := 37) rfl (by decide) (fun c14 => ?_) (fun c14 => absurd c14 hk0)
      refine Ev.aload_n rfl rfl ?_
      refine Ev.iload_n rfl rfl ?_
      refine Ev.iload_n rfl rfl ?_
      refine Ev.cV2 rfl rfl (by assumption) rfl rfl (by decide) ⟨(Nat.le_refl _), (Nat.le_refl _)⟩ (m_isClass_yes hM hT hw ⟨rfl, hj⟩ hk) ?_
      refine Ev.if_eq (tgt := 71) rfl (by decide) (fun c43 => absurd c43 (by decide)) (fun c43 => ?_)
      refine Ev.iload_n rfl rfl ?_
      refine Ev.iconst (v := 0) rfl (by decide) ?_
      refine Ev.iconst (v := 5) rfl (by decide) ?_
      refine Ev.cS3 rfl rfl rfl (by decide) ⟨(Nat.le_refl _), (Nat.le_refl _)⟩ (m_in_ok _ _ _) ?_
      rw [K_in_y (n := 6) (by decide) (by decide) hq]
      refine Ev.if_eq (tgt := 71) rfl (by decide) (fun c52 => absurd c52 (by decide)) (fun c52 => ?_)
      refine Ev.aload_n rfl rfl ?_
      refine Ev.getf rfl rfl (by assumption) rfl ?_
      refine Ev.aload_n rfl rfl ?_
      refine Ev.iload_n rfl rfl ?_
      refine Ev.iload_n rfl rfl ?_
      refine Ev.cV2 rfl rfl (by assumption) rfl rfl (by decide) ⟨(Nat.le_refl _), (Nat.le_refl _)⟩ (m_classAt_ok hM k) ?_
      refine Ev.iload_n rfl rfl ?_
      refine Ev.iadd rfl ?_
      refine Ev.ialdN (k := 970 + 40 * j + 1 + 6 * k + q) rfl (by assumption) (nI_add _ q) ⟨(by omega), by decide⟩ ?_
      rw [hP.2 k hk q hq]
      refine Ev.goto (tgt := 73) rfl (by decide) ?_
      refine Ev.iret (ty := .int) rfl rfl rfl (Nat.le_refl _) (Nat.le_refl _) ?_
      rw [← hQ]
      exact ⟨by simp [K_plan, hk0, ixd_some hk (by omega : (tP T j).1 < 2 ^ 31), e6], rfl⟩
theorem m_plan_none (hM : isM σ y g A) (hT : mT A 0 T) (hw : wT T) {v : Int32} (hg : v < 0 ∨ nI (tPn T) ≤ v) (k w : Int32) : RetV Γ m_M_plan [.ref y, .int v, .int k, .int w] σ (.int (-2)) := by
  obtain ⟨m0, m1⟩ := id hM
  unfold RetV
  generalize hQ : (fun (r : Option Value) (σ' : ex_S) => r = some ((.int (-2)) : Value) ∧ σ' = σ) = Q
  refine Ret.start pm_197 rfl ?_
  refine Ev.aload_n rfl rfl ?_
  refine Ev.iconst (v := 1) rfl (by decide) ?_
  refine Ev.iload_n rfl rfl ?_
  refine Ev.cV2 rfl rfl (by assumption) rfl rfl (by decide) ⟨(Nat.le_refl _), (Nat.le_refl _)⟩ (m_isOf1_no hM hT hw hg) ?_
  refine Ev.if_ne (tgt := 12) rfl (by decide) (fun c6 => absurd rfl c6) (fun c6 => ?_)
  refine Ev.bipush (v := (-2)) rfl (by decide) ?_
  refine Ev.iret (ty := .int) rfl rfl rfl (Nat.le_refl _) (Nat.le_refl _) ?_
  rw [← hQ]
  exact ⟨rfl, rfl⟩
theorem m_fault_ok (hM : isM σ y g A) (hT : mT A 0 T) (hw : wT T) (w : Int32) : RetV Γ m_M_fault [.ref y, .int w] σ (.int (K_fault T w)) := by
  obtain ⟨m0, m1⟩ := id hM
  unfold RetV
  generalize hQ : (fun (r : Option Value) (σ' : ex_S) => r = some ((.int (K_fault T w)) : Value) ∧ σ' = σ) = Q
  refine Ret.start pm_192 rfl ?_
  have a3 : A 3 = tF T := by simpa using hT.2.2.2.1
  have a4 : A 4 = tQ T := by simpa using hT.2.2.2.2.1
  refine Ev.iload_n rfl rfl ?_
  refine Ev.if_ne (tgt := 13) rfl (by decide) (fun c1 => ?_) (fun c1 => ?_)
  · skip
    refine Ev.iload_n rfl rfl ?_
    refine Ev.iconst (v := 1) rfl (by decide) ?_
    refine Ev.icmp_ne (tgt := 27) rfl (by decide) (fun c15 => ?_) (fun c15 => ?_)
    · skip
      refine Ev.iconst (v := (-1)) rfl (by decide) ?_
      refine Ev.iret (ty := .int) rfl rfl rfl (Nat.le_refl _) (Nat.le_refl _) ?_
      rw [← hQ]
      exact ⟨by simp [K_fault, *], rfl⟩
    · skip
      refine Ev.aload_n rfl rfl ?_
      refine Ev.getf rfl rfl (by assumption) rfl ?_
      refine Ev.iconst (v := 4) rfl (by decide) ?_
      refine Ev.ialdN (k := 4) rfl (by assumption) (by decide) ⟨(by decide), by decide⟩ ?_
      refine Ev.goto (tgt := 28) rfl (by decide) ?_
      refine Ev.iret (ty := .int) rfl rfl rfl (Nat.le_refl _) (Nat.le_refl _) ?_
      rw [← hQ]
      exact ⟨by simp [K_fault, *], rfl⟩
  · skip
    refine Ev.aload_n rfl rfl ?_
    refine Ev.getf rfl rfl (by assumption) rfl ?_
    refine Ev.iconst (v := 3) rfl (by decide) ?_
    refine Ev.ialdN (k := 3) rfl (by assumption) (by decide) ⟨(by decide), by decide⟩ ?_
    refine Ev.goto (tgt := 28) rfl (by decide) ?_
    refine Ev.iret (ty := .int) rfl rfl rfl (Nat.le_refl _) (Nat.le_refl _) ?_
    rw [← hQ]
    exact ⟨by simp [K_fault, *], rfl⟩
theorem m_count_ok (hM : isM σ y g A) (hT : mT A 0 T) (hw : wT T) (w : Int32) : RetV Γ m_M_count [.ref y, .int w] σ (.int (K_count T w)) := by
  obtain ⟨m0, m1⟩ := id hM
  unfold RetV
  generalize hQ : (fun (r : Option Value) (σ' : ex_S) => r = some ((.int (K_count T w)) : Value) ∧ σ' = σ) = Q
  refine Ret.start pm_274 rfl ?_
  have a0 : A 0 = nI (tSn T) := hT.1
  have a1 : A 1 = nI (tPn T) := by simpa using hT.2.1
  rcases ix_c2 w 2 (by decide) with hw5 | ⟨q, hq, rfl⟩
  · have q0 : ¬ w = 0 := fun h => by subst h; exact absurd hw5 (by decide)
    have q1 : ¬ w = 1 := fun h => by subst h; exact absurd hw5 (by decide)
    refine Ev.iload_n rfl rfl ?_
    refine Ev.iconst (v := 0) rfl (by decide) ?_
    refine Ev.iconst (v := 1) rfl (by decide) ?_
    refine Ev.cS3 rfl rfl rfl (by decide) ⟨(Nat.le_refl _), (Nat.le_refl _)⟩ (m_in_ok _ _ _) ?_
    rw [K_in_n (n := 2) (by decide) (by decide) hw5]
    refine Ev.if_eq (tgt := 18) rfl (by decide) (fun c6 => ?_) (fun c6 => absurd rfl c6)
    refine Ev.bipush (v := (-2)) rfl (by decide) ?_
    refine Ev.iret (ty := .int) rfl rfl rfl (Nat.le_refl _) (Nat.le_refl _) ?_
    rw [← hQ]
    exact ⟨by simp [K_count, q0, q1], rfl⟩
  · match q, hq with
    | 0, hq =>
      refine Ev.iload_n rfl rfl ?_
      refine Ev.iconst (v := 0) rfl (by decide) ?_
      refine Ev.iconst (v := 1) rfl (by decide) ?_
      refine Ev.cS3 rfl rfl rfl (by decide) ⟨(Nat.le_refl _), (Nat.le_refl _)⟩ (m_in_ok _ _ _) ?_
      rw [K_in_y (n := 2) (by decide) (by decide) hq]
      refine Ev.if_eq (tgt := 18) rfl (by decide) (fun c6 => absurd c6 (by decide)) (fun c6 => ?_)
      refine Ev.aload_n rfl rfl ?_
      refine Ev.getf rfl rfl (by assumption) rfl ?_
      refine Ev.iload_n rfl rfl ?_
      refine Ev.ialdN (k := 0) rfl (by assumption) rfl ⟨(by decide), by decide⟩ ?_
      refine Ev.goto (tgt := 20) rfl (by decide) ?_
      refine Ev.iret (ty := .int) rfl rfl rfl (Nat.le_refl _) (Nat.le_refl _) ?_
      rw [← hQ]
      exact ⟨by rw [a0]; rfl, rfl⟩
    | 1, hq =>
      refine Ev.iload_n rfl rfl ?_
      refine Ev.iconst (v := 0) rfl (by decide) ?_
      refine Ev.iconst (v := 1) rfl (by decide) ?_
      refine Ev.cS3 rfl rfl rfl (by decide) ⟨(Nat.le_refl _), (Nat.le_refl _)⟩ (m_in_ok _ _ _) ?_
      rw [K_in_y (n := 2) (by decide) (by decide) hq]
      refine Ev.if_eq (tgt := 18) rfl (by decide) (fun c6 => absurd c6 (by decide)) (fun c6 => ?_)
      refine Ev.aload_n rfl rfl ?_
      refine Ev.getf rfl rfl (by assumption) rfl ?_
      refine Ev.iload_n rfl rfl ?_
      refine Ev.ialdN (k := 1) rfl (by assumption) rfl ⟨(by decide), by decide⟩ ?_
      refine Ev.goto (tgt := 20) rfl (by decide) ?_
      refine Ev.iret (ty := .int) rfl rfl rfl (Nat.le_refl _) (Nat.le_refl _) ?_
      rw [← hQ]
      exact ⟨by rw [a1]; rfl, rfl⟩
end
end
