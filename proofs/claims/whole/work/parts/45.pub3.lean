/-! fit, learnt on both sides. -/
noncomputable section
theorem ix_c2 (a : Int32) (n : Nat) (hn : n < 100) : (a < 0 ∨ nI n ≤ a) ∨ ∃ i, i < n ∧ a = nI i := by
  rcases ix_cases a hn with h | h | h
  · exact Or.inl (Or.inl h)
  · exact Or.inl (Or.inr h)
  · exact Or.inr h
/-- an index, if it is one below n -/
def ixd (x : Int32) (n : Nat) : Option Nat := if x < 0 then none else if nI n ≤ x then none else some x.toNatClampNeg
theorem ixd_none {x : Int32} {n : Nat} (h : x < 0 ∨ nI n ≤ x) : ixd x n = none := by
  unfold ixd
  by_cases h0 : x < 0
  · rw [if_pos h0]
  · rw [if_neg h0, if_pos (h.resolve_left h0)]
theorem ixd_some {i n : Nat} (h : i < n) (hn : n < 2 ^ 31) : ixd (nI i) n = some i := by
  unfold ixd
  rw [if_neg (nI_pos (by omega)), if_neg (nI_ge h hn), nI_clamp (by omega)]
theorem has_no {S : Sch} {l : Int32} (h : l < 0 ∨ nI S.1 ≤ l) : K_has S l = 0 := by
  unfold K_has
  by_cases h0 : l < 0
  · rw [if_pos h0]
  · rw [if_neg h0, if_pos (h.resolve_left h0)]
theorem has_yes {S : Sch} {l : Nat} (h : l < S.1) (hn : S.1 ≤ 16) : K_has S (nI l) = 1 := by
  unfold K_has
  rw [if_neg (nI_pos (by omega)), if_neg (nI_ge h (by omega))]
theorem neg1_ix {n : Nat} : ((-1 : Int32) < 0 ∨ nI n ≤ -1) := Or.inl (by decide)
theorem ixd_m1 {n : Nat} : ixd (-1) n = none := ixd_none neg1_ix
theorem nI_ne_neg1 {k : Nat} (h : k < 100) : ¬ nI k = -1 := by
  rw [eq_toInt, nI_toInt (by omega)]
  have : (-1 : Int32).toInt = -1 := by decide
  omega
def K_fit1 (S : Sch) (P : Pln) (k l : Int32) : Int32 := match ixd k P.1 with
  | none => -1
  | some k => match ixd l S.1 with
    | none => -1
    | some l => K_fitting S (P.2 k) (S.2.2 0 l) (K_steps S (P.2 k 5))
def K_learnt (S : Sch) (P : Pln) (k l : Int32) : Int32 := if k = -1 ∧ l = -1 then K_inAll S P else match ixd k P.1 with
  | none => -1
  | some k => if l = -1 then K_tog S (P.2 k) (P.2 k 5) else match ixd l S.1 with
    | none => -1
    | some l => if K_bit (P.2 k 5) (nI l) = 0 then -1 else K_byOne S (P.2 k) l
section
variable {Γ : ex_G} {σ : ex_S} {x q a p y : Nat} {S : Sch} {T : Tol} {P : Pln} {g A : Nat → Int32}
theorem m_isGoing_yes (hM : isM σ y g A) (hT : mT A 0 T) (hw : wT T) {u v : Int32} {i j : Nat} (hg : gd T u v i j) {k : Nat} (hk : k < (tP T j).1) : RetV Γ m_M_isGoing [.ref y, .int u, .int v, .int (nI k)] σ (.int (1)) := by
  obtain ⟨m0, m1⟩ := id hM
  unfold RetV
  generalize hQ : (fun (r : Option Value) (σ' : ex_S) => r = some ((.int (1)) : Value) ∧ σ' = σ) = Q
  refine Ret.start pm_213 rfl ?_
  have hgd := hg
  obtain ⟨rfl, hi, rfl, hj, hgo⟩ := hg
  have hi3 : i < 3 := by have := hw.2.1; omega
  have hj3 : j < 3 := by have := hw.2.2.1; omega
  have hwS := hw.2.2.2.1 i hi
  have hwP := hw.2.2.2.2 j hj
  have hn16 := hwS.1
  have hn5 := hwS.2.1
  have h6 := hwP.1
  have hS := hT.s hi
  have hP := hT.p hj
  have hs : 610 + 120 * i + 120 ≤ 4500 := by omega
  refine Ev.aload_n rfl rfl ?_
  refine Ev.iload_n rfl rfl ?_
  refine Ev.iload_n rfl rfl ?_
  refine Ev.cV2 rfl rfl (by assumption) rfl rfl (by decide) ⟨(Nat.le_refl _), (Nat.le_refl _)⟩ (m_goes_yes hM hT hw hgd) ?_
  refine Ev.if_eq (tgt := 28) rfl (by decide) (fun c6 => absurd c6 (by decide)) (fun c6 => ?_)
  refine Ev.iload_n rfl rfl ?_
  refine Ev.iconst (v := 0) rfl (by decide) ?_
  refine Ev.aload_n rfl rfl ?_
  refine Ev.iload_n rfl rfl ?_
  refine Ev.cV1 rfl rfl (by assumption) rfl rfl (by decide) ⟨(Nat.le_refl _), (Nat.le_refl _)⟩ (m_classes_ok hM hP hj3 h6) ?_
  refine Ev.iconst (v := 1) rfl (by decide) ?_
  refine Ev.isub rfl ?_
  refine Ev.cS3 rfl rfl rfl (by decide) ⟨(Nat.le_refl _), (Nat.le_refl _)⟩ (m_in_ok _ _ _) ?_
  rw [K_in_yes hk (by omega)]
  refine Ev.if_eq (tgt := 28) rfl (by decide) (fun c21 => absurd c21 (by decide)) (fun c21 => ?_)
  refine Ev.iconst (v := 1) rfl (by decide) ?_
  refine Ev.goto (tgt := 29) rfl (by decide) ?_
  refine Ev.iret (ty := .boolean) rfl rfl rfl (Nat.le_refl _) (Nat.le_refl _) ?_
  rw [← hQ]
  exact ⟨rfl, rfl⟩
theorem m_isGoing_nok (hM : isM σ y g A) (hT : mT A 0 T) (hw : wT T) {u v : Int32} {i j : Nat} (hg : gd T u v i j) {k : Int32} (hk : k < 0 ∨ nI (tP T j).1 ≤ k) : RetV Γ m_M_isGoing [.ref y, .int u, .int v, .int k] σ (.int (0)) := by
  obtain ⟨m0, m1⟩ := id hM
  unfold RetV
  generalize hQ : (fun (r : Option Value) (σ' : ex_S) => r = some ((.int (0)) : Value) ∧ σ' = σ) = Q
  refine Ret.start pm_213 rfl ?_
  have hgd := hg
  obtain ⟨rfl, hi, rfl, hj, hgo⟩ := hg
  have hi3 : i < 3 := by have := hw.2.1; omega
  have hj3 : j < 3 := by have := hw.2.2.1; omega
  have hwS := hw.2.2.2.1 i hi
  have hwP := hw.2.2.2.2 j hj
  have hn16 := hwS.1
  have hn5 := hwS.2.1
  have h6 := hwP.1
  have hS := hT.s hi
  have hP := hT.p hj
  have hs : 610 + 120 * i + 120 ≤ 4500 := by omega
  refine Ev.aload_n rfl rfl ?_
  refine Ev.iload_n rfl rfl ?_
  refine Ev.iload_n rfl rfl ?_
  refine Ev.cV2 rfl rfl (by assumption) rfl rfl (by decide) ⟨(Nat.le_refl _), (Nat.le_refl _)⟩ (m_goes_yes hM hT hw hgd) ?_
  refine Ev.if_eq (tgt := 28) rfl (by decide) (fun c6 => absurd c6 (by decide)) (fun c6 => ?_)
  refine Ev.iload_n rfl rfl ?_
  refine Ev.iconst (v := 0) rfl (by decide) ?_
  refine Ev.aload_n rfl rfl ?_
  refine Ev.iload_n rfl rfl ?_
  refine Ev.cV1 rfl rfl (by assumption) rfl rfl (by decide) ⟨(Nat.le_refl _), (Nat.le_refl _)⟩ (m_classes_ok hM hP hj3 h6) ?_
  refine Ev.iconst (v := 1) rfl (by decide) ?_
  refine Ev.isub rfl ?_
  refine Ev.cS3 rfl rfl rfl (by decide) ⟨(Nat.le_refl _), (Nat.le_refl _)⟩ (m_in_ok _ _ _) ?_
  rw [K_in_no (by omega) hk]
  refine Ev.if_eq (tgt := 28) rfl (by decide) (fun c21 => ?_) (fun c21 => absurd rfl c21)
  refine Ev.iconst (v := 0) rfl (by decide) ?_
  refine Ev.iret (ty := .boolean) rfl rfl rfl (Nat.le_refl _) (Nat.le_refl _) ?_
  rw [← hQ]
  exact ⟨rfl, rfl⟩
theorem m_isGoing_no (hM : isM σ y g A) (hT : mT A 0 T) (hw : wT T) {u v : Int32} (hg : ¬ ∃ i j, gd T u v i j) (k : Int32) : RetV Γ m_M_isGoing [.ref y, .int u, .int v, .int k] σ (.int (0)) := by
  obtain ⟨m0, m1⟩ := id hM
  unfold RetV
  generalize hQ : (fun (r : Option Value) (σ' : ex_S) => r = some ((.int (0)) : Value) ∧ σ' = σ) = Q
  refine Ret.start pm_213 rfl ?_
  refine Ev.aload_n rfl rfl ?_
  refine Ev.iload_n rfl rfl ?_
  refine Ev.iload_n rfl rfl ?_
  refine Ev.cV2 rfl rfl (by assumption) rfl rfl (by decide) ⟨(Nat.le_refl _), (Nat.le_refl _)⟩ (m_goes_no hM hT hw hg) ?_
  refine Ev.if_eq (tgt := 28) rfl (by decide) (fun c6 => ?_) (fun c6 => absurd rfl c6)
  refine Ev.iconst (v := 0) rfl (by decide) ?_
  refine Ev.iret (ty := .boolean) rfl rfl rfl (Nat.le_refl _) (Nat.le_refl _) ?_
  rw [← hQ]
  exact ⟨rfl, rfl⟩
theorem m_isLearner_yes (hM : isM σ y g A) (hT : mT A 0 T) (hw : wT T) {i : Nat} (hi : i < tSn T) {l : Nat} (hl : l < (tS T i).1) : RetV Γ m_M_isLearner [.ref y, .int (nI i), .int (nI l)] σ (.int (1)) := by
  obtain ⟨m0, m1⟩ := id hM
  unfold RetV
  generalize hQ : (fun (r : Option Value) (σ' : ex_S) => r = some ((.int (1)) : Value) ∧ σ' = σ) = Q
  refine Ret.start pm_214 rfl ?_
  have hi3 : i < 3 := by have := hw.2.1; omega
  have hn16 := (hw.2.2.2.1 i hi).1
  have hS := hT.s hi
  refine Ev.iload_n rfl rfl ?_
  refine Ev.iconst (v := 0) rfl (by decide) ?_
  refine Ev.aload_n rfl rfl ?_
  refine Ev.getf rfl rfl (by assumption) rfl ?_
  refine Ev.iconst (v := 0) rfl (by decide) ?_
  refine Ev.iload_n rfl rfl ?_
  refine Ev.cS2 rfl rfl rfl (by decide) ⟨(Nat.le_refl _), (Nat.le_refl _)⟩ (m_pl0_ok i) ?_
  refine Ev.ialdN (k := 610 + 120 * i) rfl (by assumption) rfl ⟨(by omega), by decide⟩ ?_
  rw [hS.1]
  refine Ev.iconst (v := 1) rfl (by decide) ?_
  refine Ev.isub rfl ?_
  refine Ev.cS3 rfl rfl rfl (by decide) ⟨(Nat.le_refl _), (Nat.le_refl _)⟩ (m_in_ok _ _ _) ?_
  rw [K_in_yes hl (by omega)]
  refine Ev.iret (ty := .boolean) rfl rfl rfl (Nat.le_refl _) (Nat.le_refl _) ?_
  rw [← hQ]
  exact ⟨rfl, rfl⟩
theorem m_isLearner_no (hM : isM σ y g A) (hT : mT A 0 T) (hw : wT T) {i : Nat} (hi : i < tSn T) {l : Int32} (hl : l < 0 ∨ nI (tS T i).1 ≤ l) : RetV Γ m_M_isLearner [.ref y, .int (nI i), .int l] σ (.int (0)) := by
  obtain ⟨m0, m1⟩ := id hM
  unfold RetV
  generalize hQ : (fun (r : Option Value) (σ' : ex_S) => r = some ((.int (0)) : Value) ∧ σ' = σ) = Q
  refine Ret.start pm_214 rfl ?_
  have hi3 : i < 3 := by have := hw.2.1; omega
  have hn16 := (hw.2.2.2.1 i hi).1
  have hS := hT.s hi
  refine Ev.iload_n rfl rfl ?_
  refine Ev.iconst (v := 0) rfl (by decide) ?_
  refine Ev.aload_n rfl rfl ?_
  refine Ev.getf rfl rfl (by assumption) rfl ?_
  refine Ev.iconst (v := 0) rfl (by decide) ?_
  refine Ev.iload_n rfl rfl ?_
  refine Ev.cS2 rfl rfl rfl (by decide) ⟨(Nat.le_refl _), (Nat.le_refl _)⟩ (m_pl0_ok i) ?_
  refine Ev.ialdN (k := 610 + 120 * i) rfl (by assumption) rfl ⟨(by omega), by decide⟩ ?_
  rw [hS.1]
  refine Ev.iconst (v := 1) rfl (by decide) ?_
  refine Ev.isub rfl ?_
  refine Ev.cS3 rfl rfl rfl (by decide) ⟨(Nat.le_refl _), (Nat.le_refl _)⟩ (m_in_ok _ _ _) ?_
  rw [K_in_no (by omega) hl]
  refine Ev.iret (ty := .boolean) rfl rfl rfl (Nat.le_refl _) (Nat.le_refl _) ?_
  rw [← hQ]
  exact ⟨rfl, rfl⟩
theorem fit_some (hX : isX σ x) (hT : isT σ (x + 1) T) (hw : wT T) {u v : Int32} {i j : Nat} (hg : gd T u v i j) (k l : Int32) : RetV Γ m_SD_fit [.ref x, .int u, .int v, .int k, .int l] σ (.int (K_fit1 (tS T i) (tP T j) k l)) := by
  unfold isX at hX
  obtain ⟨t0, t1, ⟨fs, t2, t3⟩, ⟨fp, t4, t5⟩, t6, t7⟩ := id hT
  unfold RetV
  generalize hQ : (fun (r : Option Value) (σ' : ex_S) => r = some ((.int (K_fit1 (tS T i) (tP T j) k l)) : Value) ∧ σ' = σ) = Q
  refine Ret.start pm_11 rfl ?_
  obtain ⟨rfl, hi, rfl, hj, hgo⟩ := hg
  have hw1 := hw.2.1
  have hw2 := hw.2.2.1
  have hwS := hw.2.2.2.1 i hi
  have hwP := hw.2.2.2.2 j hj
  have hn16 := hwS.1
  have hn5 := hwS.2.1
  have h6 := hwP.1
  have hSi := t6 i (by omega)
  have hPj := t7 j (by omega)
  have hokL : ∀ k, k < (tP T j).1 → okL (tS T i) ((tP T j).2 k) := fun k hk => goT_okL hwS (hgo k hk).1
  obtain ⟨h0, h1, h2, h3, h4, h5, h6', h7, h8, h9, h10⟩ := id hSi
  obtain ⟨p0, ⟨pf, p1, p2⟩, p3⟩ := id hPj
  rcases ix_c2 k (tP T j).1 (by omega) with hk | ⟨k, hk, rfl⟩
  · skip
    refine Ev.aload_n rfl rfl ?_
    refine Ev.iload_n rfl rfl ?_
    refine Ev.iload_n rfl rfl ?_
    refine Ev.cV2 rfl rfl (by assumption) rfl rfl (by decide) ⟨(Nat.le_refl _), (Nat.le_refl _)⟩ (going_some hX hT hw ⟨rfl, hi, rfl, hj, hgo⟩) ?_
    refine Ev.astore rfl rfl rfl ?_
    refine Ev.aload_n rfl rfl ?_
    refine Ev.getf rfl rfl (by assumption) rfl ?_
    refine Ev.iload_n rfl rfl ?_
    refine Ev.cV1 rfl rfl (by assumption) rfl rfl (by decide) ⟨(Nat.le_refl _), (Nat.le_refl _)⟩ (schoolAt_some hT hw1 hi) ?_
    refine Ev.astore rfl rfl rfl ?_
    refine Ev.aload rfl rfl ?_
    refine Ev.iload_n rfl rfl ?_
    refine Ev.cS2 rfl rfl rfl (by decide) ⟨(Nat.le_refl _), (Nat.le_refl _)⟩ (lessonOf_none hPj hk) ?_
    refine Ev.astoreN rfl rfl rfl ?_
    refine Ev.aload rfl rfl ?_
    refine Ev.ifnull rfl ?_
    refine Ev.aloadN rfl rfl ?_
    refine Ev.ifnullN (tgt := 46) rfl (by decide) ?_
    refine Ev.iconst (v := (-1)) rfl (by decide) ?_
    refine Ev.iret (ty := .int) rfl rfl rfl (Nat.le_refl _) (Nat.le_refl _) ?_
    rw [← hQ]
    exact ⟨by simp [K_fit1, ixd_none hk], rfl⟩
  · have hLk := p3 k (by omega)
    have hLk2 := hLk
    unfold isL at hLk2
    rcases ix_c2 l (tS T i).1 (by omega) with hl | ⟨l, hl, rfl⟩
    · skip
      refine Ev.aload_n rfl rfl ?_
      refine Ev.iload_n rfl rfl ?_
      refine Ev.iload_n rfl rfl ?_
      refine Ev.cV2 rfl rfl (by assumption) rfl rfl (by decide) ⟨(Nat.le_refl _), (Nat.le_refl _)⟩ (going_some hX hT hw ⟨rfl, hi, rfl, hj, hgo⟩) ?_
      refine Ev.astore rfl rfl rfl ?_
      refine Ev.aload_n rfl rfl ?_
      refine Ev.getf rfl rfl (by assumption) rfl ?_
      refine Ev.iload_n rfl rfl ?_
      refine Ev.cV1 rfl rfl (by assumption) rfl rfl (by decide) ⟨(Nat.le_refl _), (Nat.le_refl _)⟩ (schoolAt_some hT hw1 hi) ?_
      refine Ev.astore rfl rfl rfl ?_
      refine Ev.aload rfl rfl ?_
      refine Ev.iload_n rfl rfl ?_
      refine Ev.cS2 rfl rfl rfl (by decide) ⟨(Nat.le_refl _), (Nat.le_refl _)⟩ (lessonOf_some hPj h6 hk) ?_
      refine Ev.astore rfl rfl rfl ?_
      refine Ev.aload rfl rfl ?_
      refine Ev.ifnull rfl ?_
      refine Ev.aload rfl rfl ?_
      refine Ev.ifnull rfl ?_
      refine Ev.aload rfl rfl ?_
      refine Ev.iload rfl rfl ?_
      refine Ev.cV1 rfl rfl (by assumption) rfl rfl (by decide) ⟨(Nat.le_refl _), (Nat.le_refl _)⟩ (has_ok hSi l) ?_
      rw [has_no hl]
      refine Ev.if_ne (tgt := 48) rfl (by decide) (fun c43 => absurd rfl c43) (fun c43 => ?_)
      refine Ev.iconst (v := (-1)) rfl (by decide) ?_
      refine Ev.iret (ty := .int) rfl rfl rfl (Nat.le_refl _) (Nat.le_refl _) ?_
      rw [← hQ]
      exact ⟨by simp [K_fit1, ixd_none hl, ixd_some hk (by omega : (tP T j).1 < 2 ^ 31)], rfl⟩
    · skip
      refine Ev.aload_n rfl rfl ?_
      refine Ev.iload_n rfl rfl ?_
      refine Ev.iload_n rfl rfl ?_
      refine Ev.cV2 rfl rfl (by assumption) rfl rfl (by decide) ⟨(Nat.le_refl _), (Nat.le_refl _)⟩ (going_some hX hT hw ⟨rfl, hi, rfl, hj, hgo⟩) ?_
      refine Ev.astore rfl rfl rfl ?_
      refine Ev.aload_n rfl rfl ?_
      refine Ev.getf rfl rfl (by assumption) rfl ?_
      refine Ev.iload_n rfl rfl ?_
      refine Ev.cV1 rfl rfl (by assumption) rfl rfl (by decide) ⟨(Nat.le_refl _), (Nat.le_refl _)⟩ (schoolAt_some hT hw1 hi) ?_
      refine Ev.astore rfl rfl rfl ?_
      refine Ev.aload rfl rfl ?_
      refine Ev.iload_n rfl rfl ?_
      refine Ev.cS2 rfl rfl rfl (by decide) ⟨(Nat.le_refl _), (Nat.le_refl _)⟩ (lessonOf_some hPj h6 hk) ?_
      refine Ev.astore rfl rfl rfl ?_
      refine Ev.aload rfl rfl ?_
      refine Ev.ifnull rfl ?_
      refine Ev.aload rfl rfl ?_
      refine Ev.ifnull rfl ?_
      refine Ev.aload rfl rfl ?_
      refine Ev.iload rfl rfl ?_
      refine Ev.cV1 rfl rfl (by assumption) rfl rfl (by decide) ⟨(Nat.le_refl _), (Nat.le_refl _)⟩ (has_ok hSi _) ?_
      rw [has_yes hl hn16]
      refine Ev.if_ne (tgt := 48) rfl (by decide) (fun c43 => ?_) (fun c43 => absurd c43 (by decide))
      refine Ev.aload rfl rfl ?_
      refine Ev.aload rfl rfl ?_
      refine Ev.aload rfl rfl ?_
      refine Ev.getf rfl rfl (by assumption) rfl ?_
      refine Ev.iload rfl rfl ?_
      refine Ev.ialdN (k := l) rfl (by assumption) rfl ⟨(by omega), by decide⟩ ?_
      refine Ev.aload rfl rfl ?_
      refine Ev.aload rfl rfl ?_
      refine Ev.getf rfl rfl (by assumption) rfl ?_
      refine Ev.cV1 rfl rfl (by assumption) rfl rfl (by decide) ⟨(Nat.le_refl _), (Nat.le_refl _)⟩ (steps_ok hSi _) ?_
      refine Ev.cV3 rfl rfl (by assumption) rfl rfl (by decide) ⟨(Nat.le_refl _), (Nat.le_refl _)⟩ (fitting_ok hSi hLk _ _ (hokL k hk) hn5) ?_
      refine Ev.iret (ty := .int) rfl rfl rfl (Nat.le_refl _) (Nat.le_refl _) ?_
      rw [← hQ]
      exact ⟨by simp [K_fit1, ixd_some hl (by omega : (tS T i).1 < 2 ^ 31), ixd_some hk (by omega : (tP T j).1 < 2 ^ 31)], rfl⟩
theorem fit_none (hX : isX σ x) (hT : isT σ (x + 1) T) (hw : wT T) {u v : Int32} (hg : ¬ ∃ i j, gd T u v i j) (k l : Int32) : RetV Γ m_SD_fit [.ref x, .int u, .int v, .int k, .int l] σ (.int (-1)) := by
  unfold isX at hX
  obtain ⟨t0, t1, ⟨fs, t2, t3⟩, ⟨fp, t4, t5⟩, t6, t7⟩ := id hT
  unfold RetV
  generalize hQ : (fun (r : Option Value) (σ' : ex_S) => r = some ((.int (-1)) : Value) ∧ σ' = σ) = Q
  refine Ret.start pm_11 rfl ?_
  have hw1 := hw.2.1
  rcases ix_cases u (n := tSn T) (by omega) with hu | hu | ⟨i, hi, rfl⟩
  · skip
    refine Ev.aload_n rfl rfl ?_
    refine Ev.iload_n rfl rfl ?_
    refine Ev.iload_n rfl rfl ?_
    refine Ev.cV2 rfl rfl (by assumption) rfl rfl (by decide) ⟨(Nat.le_refl _), (Nat.le_refl _)⟩ (going_none hX hT hw hg) ?_
    refine Ev.astoreN rfl rfl rfl ?_
    refine Ev.aload_n rfl rfl ?_
    refine Ev.getf rfl rfl (by assumption) rfl ?_
    refine Ev.iload_n rfl rfl ?_
    refine Ev.cV1 rfl rfl (by assumption) rfl rfl (by decide) ⟨(Nat.le_refl _), (Nat.le_refl _)⟩ (schoolAt_none hT (Or.inl hu)) ?_
    refine Ev.astoreN rfl rfl rfl ?_
    refine Ev.aloadN rfl rfl ?_
    refine Ev.iload_n rfl rfl ?_
    refine Ev.cS2 rfl rfl rfl (by decide) ⟨(Nat.le_refl _), (Nat.le_refl _)⟩ (lessonOf_null _) ?_
    refine Ev.astoreN rfl rfl rfl ?_
    refine Ev.aloadN rfl rfl ?_
    refine Ev.ifnullN (tgt := 46) rfl (by decide) ?_
    refine Ev.iconst (v := (-1)) rfl (by decide) ?_
    refine Ev.iret (ty := .int) rfl rfl rfl (Nat.le_refl _) (Nat.le_refl _) ?_
    rw [← hQ]
    exact ⟨rfl, rfl⟩
  · skip
    refine Ev.aload_n rfl rfl ?_
    refine Ev.iload_n rfl rfl ?_
    refine Ev.iload_n rfl rfl ?_
    refine Ev.cV2 rfl rfl (by assumption) rfl rfl (by decide) ⟨(Nat.le_refl _), (Nat.le_refl _)⟩ (going_none hX hT hw hg) ?_
    refine Ev.astoreN rfl rfl rfl ?_
    refine Ev.aload_n rfl rfl ?_
    refine Ev.getf rfl rfl (by assumption) rfl ?_
    refine Ev.iload_n rfl rfl ?_
    refine Ev.cV1 rfl rfl (by assumption) rfl rfl (by decide) ⟨(Nat.le_refl _), (Nat.le_refl _)⟩ (schoolAt_none hT (Or.inr hu)) ?_
    refine Ev.astoreN rfl rfl rfl ?_
    refine Ev.aloadN rfl rfl ?_
    refine Ev.iload_n rfl rfl ?_
    refine Ev.cS2 rfl rfl rfl (by decide) ⟨(Nat.le_refl _), (Nat.le_refl _)⟩ (lessonOf_null _) ?_
    refine Ev.astoreN rfl rfl rfl ?_
    refine Ev.aloadN rfl rfl ?_
    refine Ev.ifnullN (tgt := 46) rfl (by decide) ?_
    refine Ev.iconst (v := (-1)) rfl (by decide) ?_
    refine Ev.iret (ty := .int) rfl rfl rfl (Nat.le_refl _) (Nat.le_refl _) ?_
    rw [← hQ]
    exact ⟨rfl, rfl⟩
  · skip
    refine Ev.aload_n rfl rfl ?_
    refine Ev.iload_n rfl rfl ?_
    refine Ev.iload_n rfl rfl ?_
    refine Ev.cV2 rfl rfl (by assumption) rfl rfl (by decide) ⟨(Nat.le_refl _), (Nat.le_refl _)⟩ (going_none hX hT hw hg) ?_
    refine Ev.astoreN rfl rfl rfl ?_
    refine Ev.aload_n rfl rfl ?_
    refine Ev.getf rfl rfl (by assumption) rfl ?_
    refine Ev.iload_n rfl rfl ?_
    refine Ev.cV1 rfl rfl (by assumption) rfl rfl (by decide) ⟨(Nat.le_refl _), (Nat.le_refl _)⟩ (schoolAt_some hT hw1 hi) ?_
    refine Ev.astore rfl rfl rfl ?_
    refine Ev.aloadN rfl rfl ?_
    refine Ev.iload_n rfl rfl ?_
    refine Ev.cS2 rfl rfl rfl (by decide) ⟨(Nat.le_refl _), (Nat.le_refl _)⟩ (lessonOf_null _) ?_
    refine Ev.astoreN rfl rfl rfl ?_
    refine Ev.aload rfl rfl ?_
    refine Ev.ifnull rfl ?_
    refine Ev.aloadN rfl rfl ?_
    refine Ev.ifnullN (tgt := 46) rfl (by decide) ?_
    refine Ev.iconst (v := (-1)) rfl (by decide) ?_
    refine Ev.iret (ty := .int) rfl rfl rfl (Nat.le_refl _) (Nat.le_refl _) ?_
    rw [← hQ]
    exact ⟨rfl, rfl⟩
theorem m_fit1_some (hM : isM σ y g A) (hT : mT A 0 T) (hw : wT T) {u v : Int32} {i j : Nat} (hg : gd T u v i j) (k l : Int32) : RetV Γ m_M_fit [.ref y, .int u, .int v, .int k, .int l] σ (.int (K_fit1 (tS T i) (tP T j) k l)) := by
  obtain ⟨m0, m1⟩ := id hM
  unfold RetV
  generalize hQ : (fun (r : Option Value) (σ' : ex_S) => r = some ((.int (K_fit1 (tS T i) (tP T j) k l)) : Value) ∧ σ' = σ) = Q
  refine Ret.start pm_215 rfl ?_
  have hgd := hg
  obtain ⟨rfl, hi, rfl, hj, hgo⟩ := hg
  have hi3 : i < 3 := by have := hw.2.1; omega
  have hj3 : j < 3 := by have := hw.2.2.1; omega
  have hwS := hw.2.2.2.1 i hi
  have hwP := hw.2.2.2.2 j hj
  have hn16 := hwS.1
  have hn5 := hwS.2.1
  have h6 := hwP.1
  have hS := hT.s hi
  have hP := hT.p hj
  have hs : 610 + 120 * i + 120 ≤ 4500 := by omega
  rcases ix_c2 k (tP T j).1 (by omega) with hk | ⟨k, hk, rfl⟩
  · skip
    refine Ev.aload_n rfl rfl ?_
    refine Ev.iload_n rfl rfl ?_
    refine Ev.iload_n rfl rfl ?_
    refine Ev.iload_n rfl rfl ?_
    refine Ev.cV3 rfl rfl (by assumption) rfl rfl (by decide) ⟨(Nat.le_refl _), (Nat.le_refl _)⟩ (m_isGoing_nok hM hT hw hgd hk) ?_
    refine Ev.if_eq (tgt := 20) rfl (by decide) (fun c7 => ?_) (fun c7 => absurd rfl c7)
    refine Ev.iconst (v := (-1)) rfl (by decide) ?_
    refine Ev.iret (ty := .int) rfl rfl rfl (Nat.le_refl _) (Nat.le_refl _) ?_
    rw [← hQ]
    exact ⟨by simp [K_fit1, ixd_none hk], rfl⟩
  · rcases ix_c2 l (tS T i).1 (by omega) with hl | ⟨l, hl, rfl⟩
    · skip
      refine Ev.aload_n rfl rfl ?_
      refine Ev.iload_n rfl rfl ?_
      refine Ev.iload_n rfl rfl ?_
      refine Ev.iload_n rfl rfl ?_
      refine Ev.cV3 rfl rfl (by assumption) rfl rfl (by decide) ⟨(Nat.le_refl _), (Nat.le_refl _)⟩ (m_isGoing_yes hM hT hw hgd hk) ?_
      refine Ev.if_eq (tgt := 20) rfl (by decide) (fun c7 => absurd c7 (by decide)) (fun c7 => ?_)
      refine Ev.aload_n rfl rfl ?_
      refine Ev.iload_n rfl rfl ?_
      refine Ev.iload rfl rfl ?_
      refine Ev.cV2 rfl rfl (by assumption) rfl rfl (by decide) ⟨(Nat.le_refl _), (Nat.le_refl _)⟩ (m_isLearner_no hM hT hw hi hl) ?_
      refine Ev.if_ne (tgt := 22) rfl (by decide) (fun c17 => absurd rfl c17) (fun c17 => ?_)
      refine Ev.iconst (v := (-1)) rfl (by decide) ?_
      refine Ev.iret (ty := .int) rfl rfl rfl (Nat.le_refl _) (Nat.le_refl _) ?_
      rw [← hQ]
      exact ⟨by simp [K_fit1, ixd_none hl, ixd_some hk (by omega : (tP T j).1 < 2 ^ 31)], rfl⟩
    · obtain ⟨w, hW, ew⟩ := (hgo k hk).2
      refine Ev.aload_n rfl rfl ?_
      refine Ev.iload_n rfl rfl ?_
      refine Ev.iload_n rfl rfl ?_
      refine Ev.iload_n rfl rfl ?_
      refine Ev.cV3 rfl rfl (by assumption) rfl rfl (by decide) ⟨(Nat.le_refl _), (Nat.le_refl _)⟩ (m_isGoing_yes hM hT hw hgd hk) ?_
      refine Ev.if_eq (tgt := 20) rfl (by decide) (fun c7 => absurd c7 (by decide)) (fun c7 => ?_)
      refine Ev.aload_n rfl rfl ?_
      refine Ev.iload_n rfl rfl ?_
      refine Ev.iload rfl rfl ?_
      refine Ev.cV2 rfl rfl (by assumption) rfl rfl (by decide) ⟨(Nat.le_refl _), (Nat.le_refl _)⟩ (m_isLearner_yes hM hT hw hi hl) ?_
      refine Ev.if_ne (tgt := 22) rfl (by decide) (fun c17 => ?_) (fun c17 => absurd c17 (by decide))
      refine Ev.aload_n rfl rfl ?_
      refine Ev.iconst (v := 0) rfl (by decide) ?_
      refine Ev.iload_n rfl rfl ?_
      refine Ev.cS2 rfl rfl rfl (by decide) ⟨(Nat.le_refl _), (Nat.le_refl _)⟩ (m_pl0_ok i) ?_
      refine Ev.aload_n rfl rfl ?_
      refine Ev.iload_n rfl rfl ?_
      refine Ev.iload_n rfl rfl ?_
      refine Ev.cV2 rfl rfl (by assumption) rfl rfl (by decide) ⟨(Nat.le_refl _), (Nat.le_refl _)⟩ (m_classAt_ok hM k) ?_
      refine Ev.iload rfl rfl ?_
      refine Ev.aload_n rfl rfl ?_
      refine Ev.iload_n rfl rfl ?_
      refine Ev.iload_n rfl rfl ?_
      refine Ev.cV2 rfl rfl (by assumption) rfl rfl (by decide) ⟨(Nat.le_refl _), (Nat.le_refl _)⟩ (m_sitsIn_ok hM hP hj3 h6 k hk) ?_
      rw [ew]
      refine Ev.cV4 rfl rfl (by assumption) rfl rfl (by decide) ⟨(Nat.le_refl _), (Nat.le_refl _)⟩ (m_fit_ok hM hS hs hwS (hP.2 k hk) (by omega) (hwP.2 k hk) (hgo k hk).1 l hl w hW) ?_
      refine Ev.iret (ty := .int) rfl rfl rfl (Nat.le_refl _) (Nat.le_refl _) ?_
      rw [← hQ]
      exact ⟨by simp [K_fit1, ixd_some hl (by omega : (tS T i).1 < 2 ^ 31), ixd_some hk (by omega : (tP T j).1 < 2 ^ 31), ew], rfl⟩
theorem m_fit1_none (hM : isM σ y g A) (hT : mT A 0 T) (hw : wT T) {u v : Int32} (hg : ¬ ∃ i j, gd T u v i j) (k l : Int32) : RetV Γ m_M_fit [.ref y, .int u, .int v, .int k, .int l] σ (.int (-1)) := by
  obtain ⟨m0, m1⟩ := id hM
  unfold RetV
  generalize hQ : (fun (r : Option Value) (σ' : ex_S) => r = some ((.int (-1)) : Value) ∧ σ' = σ) = Q
  refine Ret.start pm_215 rfl ?_
  refine Ev.aload_n rfl rfl ?_
  refine Ev.iload_n rfl rfl ?_
  refine Ev.iload_n rfl rfl ?_
  refine Ev.iload_n rfl rfl ?_
  refine Ev.cV3 rfl rfl (by assumption) rfl rfl (by decide) ⟨(Nat.le_refl _), (Nat.le_refl _)⟩ (m_isGoing_no hM hT hw hg k) ?_
  refine Ev.if_eq (tgt := 20) rfl (by decide) (fun c7 => ?_) (fun c7 => absurd rfl c7)
  refine Ev.iconst (v := (-1)) rfl (by decide) ?_
  refine Ev.iret (ty := .int) rfl rfl rfl (Nat.le_refl _) (Nat.le_refl _) ?_
  rw [← hQ]
  exact ⟨rfl, rfl⟩
theorem learnt_some (hX : isX σ x) (hT : isT σ (x + 1) T) (hw : wT T) {u v : Int32} {i j : Nat} (hg : gd T u v i j) (k l : Int32) : RetV Γ m_SD_learnt [.ref x, .int u, .int v, .int k, .int l] σ (.int (K_learnt (tS T i) (tP T j) k l)) := by
  unfold isX at hX
  obtain ⟨t0, t1, ⟨fs, t2, t3⟩, ⟨fp, t4, t5⟩, t6, t7⟩ := id hT
  unfold RetV
  generalize hQ : (fun (r : Option Value) (σ' : ex_S) => r = some ((.int (K_learnt (tS T i) (tP T j) k l)) : Value) ∧ σ' = σ) = Q
  refine Ret.start pm_12 rfl ?_
  obtain ⟨rfl, hi, rfl, hj, hgo⟩ := hg
  have hw1 := hw.2.1
  have hw2 := hw.2.2.1
  have hwS := hw.2.2.2.1 i hi
  have hwP := hw.2.2.2.2 j hj
  have hn16 := hwS.1
  have hn5 := hwS.2.1
  have h6 := hwP.1
  have hSi := t6 i (by omega)
  have hPj := t7 j (by omega)
  have hokL : ∀ k, k < (tP T j).1 → okL (tS T i) ((tP T j).2 k) := fun k hk => goT_okL hwS (hgo k hk).1
  obtain ⟨h0, h1, h2, h3, h4, h5, h6', h7, h8, h9, h10⟩ := id hSi
  obtain ⟨p0, ⟨pf, p1, p2⟩, p3⟩ := id hPj
  rcases ix_c2 k (tP T j).1 (by omega) with hk | ⟨k, hk, rfl⟩
  · skip
    refine Ev.aload_n rfl rfl ?_
    refine Ev.iload_n rfl rfl ?_
    refine Ev.iload_n rfl rfl ?_
    refine Ev.cV2 rfl rfl (by assumption) rfl rfl (by decide) ⟨(Nat.le_refl _), (Nat.le_refl _)⟩ (going_some hX hT hw ⟨rfl, hi, rfl, hj, hgo⟩) ?_
    refine Ev.astore rfl rfl rfl ?_
    refine Ev.aload_n rfl rfl ?_
    refine Ev.getf rfl rfl (by assumption) rfl ?_
    refine Ev.iload_n rfl rfl ?_
    refine Ev.cV1 rfl rfl (by assumption) rfl rfl (by decide) ⟨(Nat.le_refl _), (Nat.le_refl _)⟩ (schoolAt_some hT hw1 hi) ?_
    refine Ev.astore rfl rfl rfl ?_
    refine Ev.aload rfl rfl ?_
    refine Ev.ifnull rfl ?_
    refine Ev.aload rfl rfl ?_
    refine Ev.ifnonnull (tgt := 30) rfl (by decide) ?_
    refine Ev.iload_n rfl rfl ?_
    refine Ev.iconst (v := (-1)) rfl (by decide) ?_
    refine Ev.icmp_ne (tgt := 49) rfl (by decide) (fun c32 => ?_) (fun c32 => ?_)
    · skip
      refine Ev.aload rfl rfl ?_
      refine Ev.iload_n rfl rfl ?_
      refine Ev.cS2 rfl rfl rfl (by decide) ⟨(Nat.le_refl _), (Nat.le_refl _)⟩ (lessonOf_none hPj hk) ?_
      refine Ev.astoreN rfl rfl rfl ?_
      refine Ev.aloadN rfl rfl ?_
      refine Ev.ifnonnullN rfl ?_
      refine Ev.iconst (v := (-1)) rfl (by decide) ?_
      refine Ev.iret (ty := .int) rfl rfl rfl (Nat.le_refl _) (Nat.le_refl _) ?_
      rw [← hQ]
      exact ⟨by simp [K_learnt, ixd_none hk, ixd_m1, *], rfl⟩
    · skip
      refine Ev.iload rfl rfl ?_
      refine Ev.iconst (v := (-1)) rfl (by decide) ?_
      refine Ev.icmp_ne (tgt := 49) rfl (by decide) (fun c38 => ?_) (fun c38 => ?_)
      · skip
        refine Ev.aload rfl rfl ?_
        refine Ev.iload_n rfl rfl ?_
        refine Ev.cS2 rfl rfl rfl (by decide) ⟨(Nat.le_refl _), (Nat.le_refl _)⟩ (lessonOf_none hPj hk) ?_
        refine Ev.astoreN rfl rfl rfl ?_
        refine Ev.aloadN rfl rfl ?_
        refine Ev.ifnonnullN rfl ?_
        refine Ev.iconst (v := (-1)) rfl (by decide) ?_
        refine Ev.iret (ty := .int) rfl rfl rfl (Nat.le_refl _) (Nat.le_refl _) ?_
        rw [← hQ]
        exact ⟨by simp [K_learnt, ixd_none hk, ixd_m1, *], rfl⟩
      · skip
        refine Ev.aload rfl rfl ?_
        refine Ev.aload rfl rfl ?_
        refine Ev.cV1 rfl rfl (by assumption) rfl rfl (by decide) ⟨(Nat.le_refl _), (Nat.le_refl _)⟩ (inAll_ok hSi hPj h6 hokL hn5) ?_
        refine Ev.iret (ty := .int) rfl rfl rfl (Nat.le_refl _) (Nat.le_refl _) ?_
        rw [← hQ]
        exact ⟨by simp [K_learnt, c32, c38], rfl⟩
  · have hLk := p3 k (by omega)
    have hLk2 := hLk
    unfold isL at hLk2
    have hk1 := nI_ne_neg1 (k := k) (by omega)
    rcases ix_c2 l (tS T i).1 (by omega) with hl | ⟨l, hl, rfl⟩
    · skip
      refine Ev.aload_n rfl rfl ?_
      refine Ev.iload_n rfl rfl ?_
      refine Ev.iload_n rfl rfl ?_
      refine Ev.cV2 rfl rfl (by assumption) rfl rfl (by decide) ⟨(Nat.le_refl _), (Nat.le_refl _)⟩ (going_some hX hT hw ⟨rfl, hi, rfl, hj, hgo⟩) ?_
      refine Ev.astore rfl rfl rfl ?_
      refine Ev.aload_n rfl rfl ?_
      refine Ev.getf rfl rfl (by assumption) rfl ?_
      refine Ev.iload_n rfl rfl ?_
      refine Ev.cV1 rfl rfl (by assumption) rfl rfl (by decide) ⟨(Nat.le_refl _), (Nat.le_refl _)⟩ (schoolAt_some hT hw1 hi) ?_
      refine Ev.astore rfl rfl rfl ?_
      refine Ev.aload rfl rfl ?_
      refine Ev.ifnull rfl ?_
      refine Ev.aload rfl rfl ?_
      refine Ev.ifnonnull (tgt := 30) rfl (by decide) ?_
      refine Ev.iload_n rfl rfl ?_
      refine Ev.iconst (v := (-1)) rfl (by decide) ?_
      refine Ev.icmp_ne (tgt := 49) rfl (by decide) (fun c32 => ?_) (fun c32 => absurd c32 hk1)
      refine Ev.aload rfl rfl ?_
      refine Ev.iload_n rfl rfl ?_
      refine Ev.cS2 rfl rfl rfl (by decide) ⟨(Nat.le_refl _), (Nat.le_refl _)⟩ (lessonOf_some hPj h6 hk) ?_
      refine Ev.astore rfl rfl rfl ?_
      refine Ev.aload rfl rfl ?_
      refine Ev.ifnonnull (tgt := 64) rfl (by decide) ?_
      refine Ev.iload rfl rfl ?_
      refine Ev.iconst (v := (-1)) rfl (by decide) ?_
      refine Ev.icmp_ne (tgt := 83) rfl (by decide) (fun c67 => ?_) (fun c67 => ?_)
      · skip
        refine Ev.aload rfl rfl ?_
        refine Ev.iload rfl rfl ?_
        refine Ev.cV1 rfl rfl (by assumption) rfl rfl (by decide) ⟨(Nat.le_refl _), (Nat.le_refl _)⟩ (has_ok hSi _) ?_
        rw [has_no hl]
        refine Ev.if_eq (tgt := 115) rfl (by decide) (fun c90 => ?_) (fun c90 => absurd rfl c90)
        refine Ev.iconst (v := (-1)) rfl (by decide) ?_
        refine Ev.iret (ty := .int) rfl rfl rfl (Nat.le_refl _) (Nat.le_refl _) ?_
        rw [← hQ]
        exact ⟨by simp [K_learnt, hk1, ixd_none hl, ixd_some hk (by omega : (tP T j).1 < 2 ^ 31), *], rfl⟩
      · skip
        refine Ev.aload rfl rfl ?_
        refine Ev.aload rfl rfl ?_
        refine Ev.aload rfl rfl ?_
        refine Ev.getf rfl rfl (by assumption) rfl ?_
        refine Ev.cV2 rfl rfl (by assumption) rfl rfl (by decide) ⟨(Nat.le_refl _), (Nat.le_refl _)⟩ (tog_ok hSi hLk _ (hokL k hk) hn5) ?_
        refine Ev.iret (ty := .int) rfl rfl rfl (Nat.le_refl _) (Nat.le_refl _) ?_
        rw [← hQ]
        exact ⟨by simp [K_learnt, hk1, ixd_none hl, ixd_some hk (by omega : (tP T j).1 < 2 ^ 31), *], rfl⟩
    · have hl1 := nI_ne_neg1 (k := l) (by omega)
      refine Ev.aload_n rfl rfl ?_
      refine Ev.iload_n rfl rfl ?_
      refine Ev.iload_n rfl rfl ?_
      refine Ev.cV2 rfl rfl (by assumption) rfl rfl (by decide) ⟨(Nat.le_refl _), (Nat.le_refl _)⟩ (going_some hX hT hw ⟨rfl, hi, rfl, hj, hgo⟩) ?_
      refine Ev.astore rfl rfl rfl ?_
      refine Ev.aload_n rfl rfl ?_
      refine Ev.getf rfl rfl (by assumption) rfl ?_
      refine Ev.iload_n rfl rfl ?_
      refine Ev.cV1 rfl rfl (by assumption) rfl rfl (by decide) ⟨(Nat.le_refl _), (Nat.le_refl _)⟩ (schoolAt_some hT hw1 hi) ?_
      refine Ev.astore rfl rfl rfl ?_
      refine Ev.aload rfl rfl ?_
      refine Ev.ifnull rfl ?_
      refine Ev.aload rfl rfl ?_
      refine Ev.ifnonnull (tgt := 30) rfl (by decide) ?_
      refine Ev.iload_n rfl rfl ?_
      refine Ev.iconst (v := (-1)) rfl (by decide) ?_
      refine Ev.icmp_ne (tgt := 49) rfl (by decide) (fun c32 => ?_) (fun c32 => absurd c32 hk1)
      refine Ev.aload rfl rfl ?_
      refine Ev.iload_n rfl rfl ?_
      refine Ev.cS2 rfl rfl rfl (by decide) ⟨(Nat.le_refl _), (Nat.le_refl _)⟩ (lessonOf_some hPj h6 hk) ?_
      refine Ev.astore rfl rfl rfl ?_
      refine Ev.aload rfl rfl ?_
      refine Ev.ifnonnull (tgt := 64) rfl (by decide) ?_
      refine Ev.iload rfl rfl ?_
      refine Ev.iconst (v := (-1)) rfl (by decide) ?_
      refine Ev.icmp_ne (tgt := 83) rfl (by decide) (fun c67 => ?_) (fun c67 => absurd c67 hl1)
      refine Ev.aload rfl rfl ?_
      refine Ev.iload rfl rfl ?_
      refine Ev.cV1 rfl rfl (by assumption) rfl rfl (by decide) ⟨(Nat.le_refl _), (Nat.le_refl _)⟩ (has_ok hSi _) ?_
      rw [has_yes hl hn16]
      refine Ev.if_eq (tgt := 115) rfl (by decide) (fun c90 => absurd c90 (by decide)) (fun c90 => ?_)
      refine Ev.aload rfl rfl ?_
      refine Ev.iload rfl rfl ?_
      refine Ev.cV1 rfl rfl (by assumption) rfl rfl (by decide) ⟨(Nat.le_refl _), (Nat.le_refl _)⟩ (lhas_ok hLk _) ?_
      by_cases hb : K_bit ((tP T j).2 k 5) (nI l) = 0
      · rw [if_pos hb]
        refine Ev.if_eq (tgt := 115) rfl (by decide) (fun c100 => ?_) (fun c100 => absurd rfl c100)
        refine Ev.iconst (v := (-1)) rfl (by decide) ?_
        refine Ev.iret (ty := .int) rfl rfl rfl (Nat.le_refl _) (Nat.le_refl _) ?_
        rw [← hQ]
        exact ⟨by simp [K_learnt, hk1, hl1, hb, ixd_some hl (by omega : (tS T i).1 < 2 ^ 31), ixd_some hk (by omega : (tP T j).1 < 2 ^ 31)], rfl⟩
      rw [if_neg hb]
      refine Ev.if_eq (tgt := 115) rfl (by decide) (fun c100 => absurd c100 (by decide)) (fun c100 => ?_)
      refine Ev.aload rfl rfl ?_
      refine Ev.aload rfl rfl ?_
      refine Ev.iload rfl rfl ?_
      refine Ev.cV2 rfl rfl (by assumption) rfl rfl (by decide) ⟨(Nat.le_refl _), (Nat.le_refl _)⟩ (byOne_ok hSi hLk l (by omega) (hokL k hk) hn5) ?_
      refine Ev.goto (tgt := 116) rfl (by decide) ?_
      refine Ev.iret (ty := .int) rfl rfl rfl (Nat.le_refl _) (Nat.le_refl _) ?_
      rw [← hQ]
      exact ⟨by simp [K_learnt, hk1, hl1, hb, ixd_some hl (by omega : (tS T i).1 < 2 ^ 31), ixd_some hk (by omega : (tP T j).1 < 2 ^ 31)], rfl⟩
theorem learnt_none (hX : isX σ x) (hT : isT σ (x + 1) T) (hw : wT T) {u v : Int32} (hg : ¬ ∃ i j, gd T u v i j) (k l : Int32) : RetV Γ m_SD_learnt [.ref x, .int u, .int v, .int k, .int l] σ (.int (-1)) := by
  unfold isX at hX
  obtain ⟨t0, t1, ⟨fs, t2, t3⟩, ⟨fp, t4, t5⟩, t6, t7⟩ := id hT
  unfold RetV
  generalize hQ : (fun (r : Option Value) (σ' : ex_S) => r = some ((.int (-1)) : Value) ∧ σ' = σ) = Q
  refine Ret.start pm_12 rfl ?_
  have hw1 := hw.2.1
  rcases ix_cases u (n := tSn T) (by omega) with hu | hu | ⟨i, hi, rfl⟩
  · skip
    refine Ev.aload_n rfl rfl ?_
    refine Ev.iload_n rfl rfl ?_
    refine Ev.iload_n rfl rfl ?_
    refine Ev.cV2 rfl rfl (by assumption) rfl rfl (by decide) ⟨(Nat.le_refl _), (Nat.le_refl _)⟩ (going_none hX hT hw hg) ?_
    refine Ev.astoreN rfl rfl rfl ?_
    refine Ev.aload_n rfl rfl ?_
    refine Ev.getf rfl rfl (by assumption) rfl ?_
    refine Ev.iload_n rfl rfl ?_
    refine Ev.cV1 rfl rfl (by assumption) rfl rfl (by decide) ⟨(Nat.le_refl _), (Nat.le_refl _)⟩ (schoolAt_none hT (Or.inl hu)) ?_
    refine Ev.astoreN rfl rfl rfl ?_
    refine Ev.aloadN rfl rfl ?_
    refine Ev.ifnullN (tgt := 28) rfl (by decide) ?_
    refine Ev.iconst (v := (-1)) rfl (by decide) ?_
    refine Ev.iret (ty := .int) rfl rfl rfl (Nat.le_refl _) (Nat.le_refl _) ?_
    rw [← hQ]
    exact ⟨rfl, rfl⟩
  · skip
    refine Ev.aload_n rfl rfl ?_
    refine Ev.iload_n rfl rfl ?_
    refine Ev.iload_n rfl rfl ?_
    refine Ev.cV2 rfl rfl (by assumption) rfl rfl (by decide) ⟨(Nat.le_refl _), (Nat.le_refl _)⟩ (going_none hX hT hw hg) ?_
    refine Ev.astoreN rfl rfl rfl ?_
    refine Ev.aload_n rfl rfl ?_
    refine Ev.getf rfl rfl (by assumption) rfl ?_
    refine Ev.iload_n rfl rfl ?_
    refine Ev.cV1 rfl rfl (by assumption) rfl rfl (by decide) ⟨(Nat.le_refl _), (Nat.le_refl _)⟩ (schoolAt_none hT (Or.inr hu)) ?_
    refine Ev.astoreN rfl rfl rfl ?_
    refine Ev.aloadN rfl rfl ?_
    refine Ev.ifnullN (tgt := 28) rfl (by decide) ?_
    refine Ev.iconst (v := (-1)) rfl (by decide) ?_
    refine Ev.iret (ty := .int) rfl rfl rfl (Nat.le_refl _) (Nat.le_refl _) ?_
    rw [← hQ]
    exact ⟨rfl, rfl⟩
  · skip
    refine Ev.aload_n rfl rfl ?_
    refine Ev.iload_n rfl rfl ?_
    refine Ev.iload_n rfl rfl ?_
    refine Ev.cV2 rfl rfl (by assumption) rfl rfl (by decide) ⟨(Nat.le_refl _), (Nat.le_refl _)⟩ (going_none hX hT hw hg) ?_
    refine Ev.astoreN rfl rfl rfl ?_
    refine Ev.aload_n rfl rfl ?_
    refine Ev.getf rfl rfl (by assumption) rfl ?_
    refine Ev.iload_n rfl rfl ?_
    refine Ev.cV1 rfl rfl (by assumption) rfl rfl (by decide) ⟨(Nat.le_refl _), (Nat.le_refl _)⟩ (schoolAt_some hT hw1 hi) ?_
    refine Ev.astore rfl rfl rfl ?_
    refine Ev.aloadN rfl rfl ?_
    refine Ev.ifnullN (tgt := 28) rfl (by decide) ?_
    refine Ev.iconst (v := (-1)) rfl (by decide) ?_
    refine Ev.iret (ty := .int) rfl rfl rfl (Nat.le_refl _) (Nat.le_refl _) ?_
    rw [← hQ]
    exact ⟨rfl, rfl⟩
theorem m_learnt_some (hM : isM σ y g A) (hT : mT A 0 T) (hw : wT T) {u v : Int32} {i j : Nat} (hg : gd T u v i j) (k l : Int32) : RetV Γ m_M_learnt [.ref y, .int u, .int v, .int k, .int l] σ (.int (K_learnt (tS T i) (tP T j) k l)) := by
  obtain ⟨m0, m1⟩ := id hM
  unfold RetV
  generalize hQ : (fun (r : Option Value) (σ' : ex_S) => r = some ((.int (K_learnt (tS T i) (tP T j) k l)) : Value) ∧ σ' = σ) = Q
  refine Ret.start pm_216 rfl ?_
  have hgd := hg
  obtain ⟨rfl, hi, rfl, hj, hgo⟩ := hg
  have hi3 : i < 3 := by have := hw.2.1; omega
  have hj3 : j < 3 := by have := hw.2.2.1; omega
  have hwS := hw.2.2.2.1 i hi
  have hwP := hw.2.2.2.2 j hj
  have hn16 := hwS.1
  have hn5 := hwS.2.1
  have h6 := hwP.1
  have hS := hT.s hi
  have hP := hT.p hj
  have hs : 610 + 120 * i + 120 ≤ 4500 := by omega
  rcases ix_c2 k (tP T j).1 (by omega) with hk | ⟨k, hk, rfl⟩
  · skip
    refine Ev.aload_n rfl rfl ?_
    refine Ev.iload_n rfl rfl ?_
    refine Ev.iload_n rfl rfl ?_
    refine Ev.cV2 rfl rfl (by assumption) rfl rfl (by decide) ⟨(Nat.le_refl _), (Nat.le_refl _)⟩ (m_goes_yes hM hT hw hgd) ?_
    refine Ev.if_ne (tgt := 11) rfl (by decide) (fun c6 => ?_) (fun c6 => absurd c6 (by decide))
    refine Ev.iconst (v := 0) rfl (by decide) ?_
    refine Ev.iload_n rfl rfl ?_
    refine Ev.cS2 rfl rfl rfl (by decide) ⟨(Nat.le_refl _), (Nat.le_refl _)⟩ (m_pl0_ok i) ?_
    refine Ev.istore rfl rfl rfl ?_
    refine Ev.iload_n rfl rfl ?_
    refine Ev.iconst (v := (-1)) rfl (by decide) ?_
    refine Ev.icmp_ne (tgt := 41) rfl (by decide) (fun c20 => ?_) (fun c20 => ?_)
    · skip
      refine Ev.iload_n rfl rfl ?_
      refine Ev.iconst (v := 0) rfl (by decide) ?_
      refine Ev.aload_n rfl rfl ?_
      refine Ev.iload_n rfl rfl ?_
      refine Ev.cV1 rfl rfl (by assumption) rfl rfl (by decide) ⟨(Nat.le_refl _), (Nat.le_refl _)⟩ (m_classes_ok hM hP hj3 h6) ?_
      refine Ev.iconst (v := 1) rfl (by decide) ?_
      refine Ev.isub rfl ?_
      refine Ev.cS3 rfl rfl rfl (by decide) ⟨(Nat.le_refl _), (Nat.le_refl _)⟩ (m_in_ok _ _ _) ?_
      rw [K_in_no (by omega) hk]
      refine Ev.if_ne (tgt := 58) rfl (by decide) (fun c53 => absurd rfl c53) (fun c53 => ?_)
      refine Ev.iconst (v := (-1)) rfl (by decide) ?_
      refine Ev.iret (ty := .int) rfl rfl rfl (Nat.le_refl _) (Nat.le_refl _) ?_
      rw [← hQ]
      exact ⟨by simp [K_learnt, ixd_none hk, ixd_m1, *], rfl⟩
    · skip
      refine Ev.iload rfl rfl ?_
      refine Ev.iconst (v := (-1)) rfl (by decide) ?_
      refine Ev.icmp_ne (tgt := 39) rfl (by decide) (fun c26 => ?_) (fun c26 => ?_)
      · skip
        refine Ev.iconst (v := (-1)) rfl (by decide) ?_
        refine Ev.iret (ty := .int) rfl rfl rfl (Nat.le_refl _) (Nat.le_refl _) ?_
        rw [← hQ]
        exact ⟨by simp [K_learnt, ixd_none hk, ixd_m1, *], rfl⟩
      · skip
        refine Ev.aload_n rfl rfl ?_
        refine Ev.iload rfl rfl ?_
        refine Ev.iload_n rfl rfl ?_
        refine Ev.cV2 rfl rfl (by assumption) rfl rfl (by decide) ⟨(Nat.le_refl _), (Nat.le_refl _)⟩ (m_inAll_ok hM hS hs hwS hP hj3 hwP hgo) ?_
        refine Ev.goto (tgt := 40) rfl (by decide) ?_
        refine Ev.iret (ty := .int) rfl rfl rfl (Nat.le_refl _) (Nat.le_refl _) ?_
        rw [← hQ]
        exact ⟨by simp [K_learnt, ixd_none hk, ixd_m1, *], rfl⟩
  · have hk1 := nI_ne_neg1 (k := k) (by omega)
    obtain ⟨w, hW, ew⟩ := (hgo k hk).2
    rcases ix_c2 l (tS T i).1 (by omega) with hl | ⟨l, hl, rfl⟩
    · skip
      refine Ev.aload_n rfl rfl ?_
      refine Ev.iload_n rfl rfl ?_
      refine Ev.iload_n rfl rfl ?_
      refine Ev.cV2 rfl rfl (by assumption) rfl rfl (by decide) ⟨(Nat.le_refl _), (Nat.le_refl _)⟩ (m_goes_yes hM hT hw hgd) ?_
      refine Ev.if_ne (tgt := 11) rfl (by decide) (fun c6 => ?_) (fun c6 => absurd c6 (by decide))
      refine Ev.iconst (v := 0) rfl (by decide) ?_
      refine Ev.iload_n rfl rfl ?_
      refine Ev.cS2 rfl rfl rfl (by decide) ⟨(Nat.le_refl _), (Nat.le_refl _)⟩ (m_pl0_ok i) ?_
      refine Ev.istore rfl rfl rfl ?_
      refine Ev.iload_n rfl rfl ?_
      refine Ev.iconst (v := (-1)) rfl (by decide) ?_
      refine Ev.icmp_ne (tgt := 41) rfl (by decide) (fun c20 => ?_) (fun c20 => absurd c20 hk1)
      refine Ev.iload_n rfl rfl ?_
      refine Ev.iconst (v := 0) rfl (by decide) ?_
      refine Ev.aload_n rfl rfl ?_
      refine Ev.iload_n rfl rfl ?_
      refine Ev.cV1 rfl rfl (by assumption) rfl rfl (by decide) ⟨(Nat.le_refl _), (Nat.le_refl _)⟩ (m_classes_ok hM hP hj3 h6) ?_
      refine Ev.iconst (v := 1) rfl (by decide) ?_
      refine Ev.isub rfl ?_
      refine Ev.cS3 rfl rfl rfl (by decide) ⟨(Nat.le_refl _), (Nat.le_refl _)⟩ (m_in_ok _ _ _) ?_
      rw [K_in_yes hk (by omega)]
      refine Ev.if_ne (tgt := 58) rfl (by decide) (fun c53 => ?_) (fun c53 => absurd c53 (by decide))
      refine Ev.aload_n rfl rfl ?_
      refine Ev.iload_n rfl rfl ?_
      refine Ev.iload_n rfl rfl ?_
      refine Ev.cV2 rfl rfl (by assumption) rfl rfl (by decide) ⟨(Nat.le_refl _), (Nat.le_refl _)⟩ (m_sitsIn_ok hM hP hj3 h6 k hk) ?_
      rw [ew]
      refine Ev.istore rfl rfl rfl ?_
      refine Ev.iload rfl rfl ?_
      refine Ev.iconst (v := (-1)) rfl (by decide) ?_
      refine Ev.icmp_ne (tgt := 87) rfl (by decide) (fun c69 => ?_) (fun c69 => ?_)
      · skip
        refine Ev.aload_n rfl rfl ?_
        refine Ev.iload_n rfl rfl ?_
        refine Ev.iload rfl rfl ?_
        refine Ev.cV2 rfl rfl (by assumption) rfl rfl (by decide) ⟨(Nat.le_refl _), (Nat.le_refl _)⟩ (m_isLearner_no hM hT hw hi hl) ?_
        refine Ev.if_eq (tgt := 127) rfl (by decide) (fun c94 => ?_) (fun c94 => absurd rfl c94)
        refine Ev.iconst (v := (-1)) rfl (by decide) ?_
        refine Ev.iret (ty := .int) rfl rfl rfl (Nat.le_refl _) (Nat.le_refl _) ?_
        rw [← hQ]
        exact ⟨by simp [K_learnt, hk1, ixd_none hl, ixd_some hk (by omega : (tP T j).1 < 2 ^ 31), ew, *], rfl⟩
      · skip
        refine Ev.aload_n rfl rfl ?_
        refine Ev.iload rfl rfl ?_
        refine Ev.aload_n rfl rfl ?_
        refine Ev.iload_n rfl rfl ?_
        refine Ev.iload_n rfl rfl ?_
        refine Ev.cV2 rfl rfl (by assumption) rfl rfl (by decide) ⟨(Nat.le_refl _), (Nat.le_refl _)⟩ (m_classAt_ok hM k) ?_
        refine Ev.iload rfl rfl ?_
        refine Ev.cV3 rfl rfl (by assumption) rfl rfl (by decide) ⟨(Nat.le_refl _), (Nat.le_refl _)⟩ (m_tog_ok hM hS hs hwS (hP.2 k hk) (by omega) (hwP.2 k hk) (hgo k hk).1 w hW) ?_
        refine Ev.iret (ty := .int) rfl rfl rfl (Nat.le_refl _) (Nat.le_refl _) ?_
        rw [← hQ]
        exact ⟨by simp [K_learnt, hk1, ixd_none hl, ixd_some hk (by omega : (tP T j).1 < 2 ^ 31), ew, *], rfl⟩
    · have hl1 := nI_ne_neg1 (k := l) (by omega)
      have hbc := bit_cases (nI w) (nI l)
      refine Ev.aload_n rfl rfl ?_
      refine Ev.iload_n rfl rfl ?_
      refine Ev.iload_n rfl rfl ?_
      refine Ev.cV2 rfl rfl (by assumption) rfl rfl (by decide) ⟨(Nat.le_refl _), (Nat.le_refl _)⟩ (m_goes_yes hM hT hw hgd) ?_
      refine Ev.if_ne (tgt := 11) rfl (by decide) (fun c6 => ?_) (fun c6 => absurd c6 (by decide))
      refine Ev.iconst (v := 0) rfl (by decide) ?_
      refine Ev.iload_n rfl rfl ?_
      refine Ev.cS2 rfl rfl rfl (by decide) ⟨(Nat.le_refl _), (Nat.le_refl _)⟩ (m_pl0_ok i) ?_
      refine Ev.istore rfl rfl rfl ?_
      refine Ev.iload_n rfl rfl ?_
      refine Ev.iconst (v := (-1)) rfl (by decide) ?_
      refine Ev.icmp_ne (tgt := 41) rfl (by decide) (fun c20 => ?_) (fun c20 => absurd c20 hk1)
      refine Ev.iload_n rfl rfl ?_
      refine Ev.iconst (v := 0) rfl (by decide) ?_
      refine Ev.aload_n rfl rfl ?_
      refine Ev.iload_n rfl rfl ?_
      refine Ev.cV1 rfl rfl (by assumption) rfl rfl (by decide) ⟨(Nat.le_refl _), (Nat.le_refl _)⟩ (m_classes_ok hM hP hj3 h6) ?_
      refine Ev.iconst (v := 1) rfl (by decide) ?_
      refine Ev.isub rfl ?_
      refine Ev.cS3 rfl rfl rfl (by decide) ⟨(Nat.le_refl _), (Nat.le_refl _)⟩ (m_in_ok _ _ _) ?_
      rw [K_in_yes hk (by omega)]
      refine Ev.if_ne (tgt := 58) rfl (by decide) (fun c53 => ?_) (fun c53 => absurd c53 (by decide))
      refine Ev.aload_n rfl rfl ?_
      refine Ev.iload_n rfl rfl ?_
      refine Ev.iload_n rfl rfl ?_
      refine Ev.cV2 rfl rfl (by assumption) rfl rfl (by decide) ⟨(Nat.le_refl _), (Nat.le_refl _)⟩ (m_sitsIn_ok hM hP hj3 h6 k hk) ?_
      rw [ew]
      refine Ev.istore rfl rfl rfl ?_
      refine Ev.iload rfl rfl ?_
      refine Ev.iconst (v := (-1)) rfl (by decide) ?_
      refine Ev.icmp_ne (tgt := 87) rfl (by decide) (fun c69 => ?_) (fun c69 => absurd c69 hl1)
      refine Ev.aload_n rfl rfl ?_
      refine Ev.iload_n rfl rfl ?_
      refine Ev.iload rfl rfl ?_
      refine Ev.cV2 rfl rfl (by assumption) rfl rfl (by decide) ⟨(Nat.le_refl _), (Nat.le_refl _)⟩ (m_isLearner_yes hM hT hw hi hl) ?_
      refine Ev.if_eq (tgt := 127) rfl (by decide) (fun c94 => absurd c94 (by decide)) (fun c94 => ?_)
      refine Ev.iload rfl rfl ?_
      refine Ev.iload rfl rfl ?_
      refine Ev.ishr rfl ?_
      refine Ev.iconst (v := 1) rfl (by decide) ?_
      refine Ev.iand rfl ?_
      refine Ev.iconst (v := 1) rfl (by decide) ?_
      refine Ev.icmp_ne (tgt := 127) rfl (by decide) (fun c105 => ?_) (fun c105 => ?_)
      · skip
        refine Ev.iconst (v := (-1)) rfl (by decide) ?_
        refine Ev.iret (ty := .int) rfl rfl rfl (Nat.le_refl _) (Nat.le_refl _) ?_
        rw [← hQ]
        have c105' : _ := c105
        refine ⟨?_, rfl⟩
        rcases hbc with hb | hb
        · first | (have : K_bit (nI w) (nI l) = 1 := c105; rw [hb] at this; exact absurd this (by decide)) | simp [K_learnt, hk1, hl1, hb, ixd_some hl (by omega : (tS T i).1 < 2 ^ 31), ixd_some hk (by omega : (tP T j).1 < 2 ^ 31), ew]
        · first | exact absurd hb c105 | simp [K_learnt, K_byOne, K_by, hk1, hl1, hb, ixd_some hl (by omega : (tS T i).1 < 2 ^ 31), ixd_some hk (by omega : (tP T j).1 < 2 ^ 31), ew]
      · skip
        refine Ev.aload_n rfl rfl ?_
        refine Ev.iload rfl rfl ?_
        refine Ev.aload_n rfl rfl ?_
        refine Ev.iload_n rfl rfl ?_
        refine Ev.iload_n rfl rfl ?_
        refine Ev.cV2 rfl rfl (by assumption) rfl rfl (by decide) ⟨(Nat.le_refl _), (Nat.le_refl _)⟩ (m_classAt_ok hM k) ?_
        refine Ev.iload rfl rfl ?_
        refine Ev.iload rfl rfl ?_
        refine Ev.cV4 rfl rfl (by assumption) rfl rfl (by decide) ⟨(Nat.le_refl _), (Nat.le_refl _)⟩ (m_by_ok hM hS hs hwS (hP.2 k hk) (by omega) (hwP.2 k hk) (hgo k hk).1 l hl w hW) ?_
        refine Ev.goto (tgt := 128) rfl (by decide) ?_
        refine Ev.iret (ty := .int) rfl rfl rfl (Nat.le_refl _) (Nat.le_refl _) ?_
        rw [← hQ]
        have c105' : _ := c105
        refine ⟨?_, rfl⟩
        rcases hbc with hb | hb
        · first | (have : K_bit (nI w) (nI l) = 1 := c105; rw [hb] at this; exact absurd this (by decide)) | simp [K_learnt, hk1, hl1, hb, ixd_some hl (by omega : (tS T i).1 < 2 ^ 31), ixd_some hk (by omega : (tP T j).1 < 2 ^ 31), ew]
        · first | exact absurd hb c105 | simp [K_learnt, K_byOne, K_by, hk1, hl1, hb, ixd_some hl (by omega : (tS T i).1 < 2 ^ 31), ixd_some hk (by omega : (tP T j).1 < 2 ^ 31), ew]
theorem m_learnt_none (hM : isM σ y g A) (hT : mT A 0 T) (hw : wT T) {u v : Int32} (hg : ¬ ∃ i j, gd T u v i j) (k l : Int32) : RetV Γ m_M_learnt [.ref y, .int u, .int v, .int k, .int l] σ (.int (-1)) := by
  obtain ⟨m0, m1⟩ := id hM
  unfold RetV
  generalize hQ : (fun (r : Option Value) (σ' : ex_S) => r = some ((.int (-1)) : Value) ∧ σ' = σ) = Q
  refine Ret.start pm_216 rfl ?_
  refine Ev.aload_n rfl rfl ?_
  refine Ev.iload_n rfl rfl ?_
  refine Ev.iload_n rfl rfl ?_
  refine Ev.cV2 rfl rfl (by assumption) rfl rfl (by decide) ⟨(Nat.le_refl _), (Nat.le_refl _)⟩ (m_goes_no hM hT hw hg) ?_
  refine Ev.if_ne (tgt := 11) rfl (by decide) (fun c6 => absurd rfl c6) (fun c6 => ?_)
  refine Ev.iconst (v := (-1)) rfl (by decide) ?_
  refine Ev.iret (ty := .int) rfl rfl rfl (Nat.le_refl _) (Nat.le_refl _) ?_
  rw [← hQ]
  exact ⟨rfl, rfl⟩
end
end
