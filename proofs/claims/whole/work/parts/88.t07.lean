/-! Refused: numbers out of their range, and learners, classes, teachers that are not there. -/
noncomputable section
section
variable {Γ : ex_G} {σ : ex_S} {x q a p y : Nat} {S : Sch} {T : Tol} {P : Pln} {g A : Nat → Int32}
def K_let_nol (T : Tol) (i j : Nat) (l : Int32) : Int32 := (-1 : Int32)
theorem let_nol_some (hX : isX σ x) (hT : isT σ (x + 1) T) (hw : wT T) {u v : Int32} {i j : Nat} (hg : gd T u v i j) {l : Int32} (hl : l < 0 ∨ nI (tS T i).1 ≤ l) : RetV Γ m_SD_let [(.ref x), .int u, .int v, (.int l)] σ (.int (K_let_nol T i j l)) := by
  unfold isX at hX
  obtain ⟨t0, t1, ⟨fs, t2, t3⟩, ⟨fp, t4, t5⟩, t6, t7⟩ := id hT
  obtain ⟨rfl, hi, rfl, hj, hgo⟩ := hg
  have hw1 := hw.2.1
  have hw2 := hw.2.2.1
  have hwS := hw.2.2.2.1 i hi
  have hwP := hw.2.2.2.2 j hj
  have hn16 := hwS.1
  have hn5 := hwS.2.1
  have h6 := hwP.1
  have hSi := t6 i (by omega)
  have hPj := t7 j (by omega)
  have hokL : ∀ k, k < (tP T j).1 → okL (tS T i) ((tP T j).2 k) := fun k hk => goT_okL hwS (hgo k hk).1
  obtain ⟨h0, h1, h2, h3, h4, h5, h6', h7, h8, h9, h10⟩ := id hSi
  obtain ⟨p0, ⟨pf, p1, p2⟩, p3⟩ := id hPj
  unfold RetV
  generalize hQ : (fun (r : Option Value) (σ' : ex_S) => r = some ((.int (K_let_nol T i j l)) : Value) ∧ σ' = σ) = Q
  refine Ret.start pm_34 rfl ?_
  refine Ev.aload_n rfl rfl ?_
  refine Ev.iload_n rfl rfl ?_
  refine Ev.iload_n rfl rfl ?_
  refine Ev.cV2 rfl rfl hX rfl rfl (by decide) ⟨(Nat.le_refl _), (Nat.le_refl _)⟩ (going_some hX hT hw ⟨rfl, hi, rfl, hj, hgo⟩) ?_
  refine Ev.astore rfl rfl rfl ?_
  refine Ev.aload_n rfl rfl ?_
  refine Ev.getf rfl rfl hX rfl ?_
  refine Ev.iload_n rfl rfl ?_
  refine Ev.cV1 rfl rfl t0 rfl rfl (by decide) ⟨(Nat.le_refl _), (Nat.le_refl _)⟩ (schoolAt_some hT hw1 hi) ?_
  refine Ev.astore rfl rfl rfl ?_
  refine Ev.aload rfl rfl ?_
  refine Ev.ifnull rfl ?_
  refine Ev.aload rfl rfl ?_
  refine Ev.ifnull rfl ?_
  refine Ev.aload rfl rfl ?_
  refine Ev.iload_n rfl rfl ?_
  refine Ev.cV1 rfl rfl h0 rfl rfl (by decide) ⟨(Nat.le_refl _), (Nat.le_refl _)⟩ (has_n hSi hl) ?_
  refine Ev.zeq (tgt := 49) rfl (by decide) (fun c34 => ?_) (fun c34 => absurd (by decide) c34)
  refine Ev.iconst (v := (-1)) rfl (by decide) ?_
  refine Ev.iret (ty := .int) rfl rfl rfl (Nat.le_refl _) (Nat.le_refl _) ?_
  rw [← hQ]
  refine ⟨congrArg (fun v => some (Value.int v)) (Eq.symm ?_), rfl⟩
  rfl
def K_m_let_nol (T : Tol) (i j : Nat) (l : Int32) : Int32 := (-1 : Int32)
theorem m_let_nol_some (hM : isM σ y g A) (hT : mT A 0 T) (hw : wT T) {u v : Int32} {i j : Nat} (hg : gd T u v i j) {l : Int32} (hl : l < 0 ∨ nI (tS T i).1 ≤ l) : RetV Γ m_M_let [(.ref y), .int u, .int v, (.int l)] σ (.int (K_m_let_nol T i j l)) := by
  obtain ⟨m0, m1⟩ := id hM
  have hgd := hg
  obtain ⟨rfl, hi, rfl, hj, hgo⟩ := hg
  have hi3 : i < 3 := by have := hw.2.1; omega
  have hj3 : j < 3 := by have := hw.2.2.1; omega
  have hwS := hw.2.2.2.1 i hi
  have hwP := hw.2.2.2.2 j hj
  have hn16 := hwS.1
  have hn5 := hwS.2.1
  have h6 := hwP.1
  have hS := hT.s hi
  have hP := hT.p hj
  have hs : 610 + 120 * i + 120 ≤ 4500 := by omega
  unfold RetV
  generalize hQ : (fun (r : Option Value) (σ' : ex_S) => r = some ((.int (K_m_let_nol T i j l)) : Value) ∧ σ' = σ) = Q
  refine Ret.start pm_263 rfl ?_
  refine Ev.aload_n rfl rfl ?_
  refine Ev.iload_n rfl rfl ?_
  refine Ev.iload_n rfl rfl ?_
  refine Ev.cV2 rfl rfl m0 rfl rfl (by decide) ⟨(Nat.le_refl _), (Nat.le_refl _)⟩ (m_goes_yes hM hT hw hgd) ?_
  refine Ev.zeq (tgt := 31) rfl (by decide) (fun c6 => absurd c6 (by decide)) (fun c6 => ?_)
  refine Ev.aload_n rfl rfl ?_
  refine Ev.iload_n rfl rfl ?_
  refine Ev.iload_n rfl rfl ?_
  refine Ev.cV2 rfl rfl m0 rfl rfl (by decide) ⟨(Nat.le_refl _), (Nat.le_refl _)⟩ (m_isLearner_no hM hT hw hi hl) ?_
  refine Ev.zeq (tgt := 31) rfl (by decide) (fun c15 => ?_) (fun c15 => absurd (by decide) c15)
  refine Ev.iconst (v := (-1)) rfl (by decide) ?_
  refine Ev.iret (ty := .int) rfl rfl rfl (Nat.le_refl _) (Nat.le_refl _) ?_
  rw [← hQ]
  refine ⟨congrArg (fun v => some (Value.int v)) (Eq.symm ?_), rfl⟩
  rfl
def K_june_nol (T : Tol) (i j : Nat) (k0 : Nat) (l n : Int32) : Int32 := (-1 : Int32)
theorem june_nol_some (hX : isX σ x) (hT : isT σ (x + 1) T) (hw : wT T) {u v : Int32} {i j : Nat} (hg : gd T u v i j) {k0 : Nat} (hkk : k0 < (tP T j).1) {l n : Int32} (hl : l < 0 ∨ nI (tS T i).1 ≤ l) : RetV Γ m_SD_june [(.ref x), .int u, .int v, (.int (nI k0)), (.int l), (.int n)] σ (.int (K_june_nol T i j k0 l n)) := by
  unfold isX at hX
  obtain ⟨t0, t1, ⟨fs, t2, t3⟩, ⟨fp, t4, t5⟩, t6, t7⟩ := id hT
  obtain ⟨rfl, hi, rfl, hj, hgo⟩ := hg
  have hw1 := hw.2.1
  have hw2 := hw.2.2.1
  have hwS := hw.2.2.2.1 i hi
  have hwP := hw.2.2.2.2 j hj
  have hn16 := hwS.1
  have hn5 := hwS.2.1
  have h6 := hwP.1
  have hSi := t6 i (by omega)
  have hPj := t7 j (by omega)
  have hokL : ∀ k, k < (tP T j).1 → okL (tS T i) ((tP T j).2 k) := fun k hk => goT_okL hwS (hgo k hk).1
  obtain ⟨h0, h1, h2, h3, h4, h5, h6', h7, h8, h9, h10⟩ := id hSi
  obtain ⟨p0, ⟨pf, p1, p2⟩, p3⟩ := id hPj
  unfold RetV
  generalize hQ : (fun (r : Option Value) (σ' : ex_S) => r = some ((.int (K_june_nol T i j k0 l n)) : Value) ∧ σ' = σ) = Q
  refine Ret.start pm_35 rfl ?_
  refine Ev.aload_n rfl rfl ?_
  refine Ev.iload_n rfl rfl ?_
  refine Ev.iload_n rfl rfl ?_
  refine Ev.cV2 rfl rfl hX rfl rfl (by decide) ⟨(Nat.le_refl _), (Nat.le_refl _)⟩ (going_some hX hT hw ⟨rfl, hi, rfl, hj, hgo⟩) ?_
  refine Ev.astore rfl rfl rfl ?_
  refine Ev.aload_n rfl rfl ?_
  refine Ev.getf rfl rfl hX rfl ?_
  refine Ev.iload_n rfl rfl ?_
  refine Ev.cV1 rfl rfl t0 rfl rfl (by decide) ⟨(Nat.le_refl _), (Nat.le_refl _)⟩ (schoolAt_some hT hw1 hi) ?_
  refine Ev.astore rfl rfl rfl ?_
  refine Ev.aload rfl rfl ?_
  refine Ev.iload_n rfl rfl ?_
  refine Ev.cS2 rfl rfl rfl (by decide) ⟨(Nat.le_refl _), (Nat.le_refl _)⟩ (lessonOf_some hPj h6 hkk) ?_
  refine Ev.astore rfl rfl rfl ?_
  refine Ev.aload rfl rfl ?_
  refine Ev.ifnull rfl ?_
  refine Ev.aload rfl rfl ?_
  refine Ev.ifnull rfl ?_
  refine Ev.aload rfl rfl ?_
  refine Ev.iload rfl rfl ?_
  refine Ev.cV1 rfl rfl h0 rfl rfl (by decide) ⟨(Nat.le_refl _), (Nat.le_refl _)⟩ (has_n hSi hl) ?_
  refine Ev.zeq (tgt := 58) rfl (by decide) (fun c43 => ?_) (fun c43 => absurd (by decide) c43)
  refine Ev.iconst (v := (-1)) rfl (by decide) ?_
  refine Ev.iret (ty := .int) rfl rfl rfl (Nat.le_refl _) (Nat.le_refl _) ?_
  rw [← hQ]
  refine ⟨congrArg (fun v => some (Value.int v)) (Eq.symm ?_), rfl⟩
  rfl
def K_m_june_nol (T : Tol) (i j : Nat) (k0 : Nat) (l n : Int32) : Int32 := (-1 : Int32)
theorem m_june_nol_some (hM : isM σ y g A) (hT : mT A 0 T) (hw : wT T) {u v : Int32} {i j : Nat} (hg : gd T u v i j) {k0 : Nat} (hkk : k0 < (tP T j).1) {l n : Int32} (hl : l < 0 ∨ nI (tS T i).1 ≤ l) : RetV Γ m_M_june [(.ref y), .int u, .int v, (.int (nI k0)), (.int l), (.int n)] σ (.int (K_m_june_nol T i j k0 l n)) := by
  obtain ⟨m0, m1⟩ := id hM
  have hgd := hg
  obtain ⟨rfl, hi, rfl, hj, hgo⟩ := hg
  have hi3 : i < 3 := by have := hw.2.1; omega
  have hj3 : j < 3 := by have := hw.2.2.1; omega
  have hwS := hw.2.2.2.1 i hi
  have hwP := hw.2.2.2.2 j hj
  have hn16 := hwS.1
  have hn5 := hwS.2.1
  have h6 := hwP.1
  have hS := hT.s hi
  have hP := hT.p hj
  have hs : 610 + 120 * i + 120 ≤ 4500 := by omega
  unfold RetV
  generalize hQ : (fun (r : Option Value) (σ' : ex_S) => r = some ((.int (K_m_june_nol T i j k0 l n)) : Value) ∧ σ' = σ) = Q
  refine Ret.start pm_264 rfl ?_
  refine Ev.aload_n rfl rfl ?_
  refine Ev.iload_n rfl rfl ?_
  refine Ev.iload_n rfl rfl ?_
  refine Ev.iload_n rfl rfl ?_
  refine Ev.cV3 rfl rfl m0 rfl rfl (by decide) ⟨(Nat.le_refl _), (Nat.le_refl _)⟩ (m_isGoing_yes hM hT hw hgd hkk) ?_
  refine Ev.zeq (tgt := 31) rfl (by decide) (fun c7 => absurd c7 (by decide)) (fun c7 => ?_)
  refine Ev.aload_n rfl rfl ?_
  refine Ev.iload_n rfl rfl ?_
  refine Ev.iload rfl rfl ?_
  refine Ev.cV2 rfl rfl m0 rfl rfl (by decide) ⟨(Nat.le_refl _), (Nat.le_refl _)⟩ (m_isLearner_no hM hT hw hi hl) ?_
  refine Ev.zeq (tgt := 31) rfl (by decide) (fun c17 => ?_) (fun c17 => absurd (by decide) c17)
  refine Ev.iconst (v := (-1)) rfl (by decide) ?_
  refine Ev.iret (ty := .int) rfl rfl rfl (Nat.le_refl _) (Nat.le_refl _) ?_
  rw [← hQ]
  refine ⟨congrArg (fun v => some (Value.int v)) (Eq.symm ?_), rfl⟩
  rfl
def K_june_lo (T : Tol) (i j : Nat) (k0 l : Nat) (n : Int32) : Int32 := (-1 : Int32)
theorem june_lo_some (hX : isX σ x) (hT : isT σ (x + 1) T) (hw : wT T) {u v : Int32} {i j : Nat} (hg : gd T u v i j) {k0 : Nat} (hkk : k0 < (tP T j).1) {l : Nat} (hl : l < (tS T i).1) {n : Int32} (hb : n < 0) : RetV Γ m_SD_june [(.ref x), .int u, .int v, (.int (nI k0)), (.int (nI l)), (.int n)] σ (.int (K_june_lo T i j k0 l n)) := by
  unfold isX at hX
  obtain ⟨t0, t1, ⟨fs, t2, t3⟩, ⟨fp, t4, t5⟩, t6, t7⟩ := id hT
  obtain ⟨rfl, hi, rfl, hj, hgo⟩ := hg
  have hw1 := hw.2.1
  have hw2 := hw.2.2.1
  have hwS := hw.2.2.2.1 i hi
  have hwP := hw.2.2.2.2 j hj
  have hn16 := hwS.1
  have hn5 := hwS.2.1
  have h6 := hwP.1
  have hSi := t6 i (by omega)
  have hPj := t7 j (by omega)
  have hokL : ∀ k, k < (tP T j).1 → okL (tS T i) ((tP T j).2 k) := fun k hk => goT_okL hwS (hgo k hk).1
  obtain ⟨h0, h1, h2, h3, h4, h5, h6', h7, h8, h9, h10⟩ := id hSi
  obtain ⟨p0, ⟨pf, p1, p2⟩, p3⟩ := id hPj
  unfold RetV
  generalize hQ : (fun (r : Option Value) (σ' : ex_S) => r = some ((.int (K_june_lo T i j k0 l n)) : Value) ∧ σ' = σ) = Q
  refine Ret.start pm_35 rfl ?_
  refine Ev.aload_n rfl rfl ?_
  refine Ev.iload_n rfl rfl ?_
  refine Ev.iload_n rfl rfl ?_
  refine Ev.cV2 rfl rfl hX rfl rfl (by decide) ⟨(Nat.le_refl _), (Nat.le_refl _)⟩ (going_some hX hT hw ⟨rfl, hi, rfl, hj, hgo⟩) ?_
  refine Ev.astore rfl rfl rfl ?_
  refine Ev.aload_n rfl rfl ?_
  refine Ev.getf rfl rfl hX rfl ?_
  refine Ev.iload_n rfl rfl ?_
  refine Ev.cV1 rfl rfl t0 rfl rfl (by decide) ⟨(Nat.le_refl _), (Nat.le_refl _)⟩ (schoolAt_some hT hw1 hi) ?_
  refine Ev.astore rfl rfl rfl ?_
  refine Ev.aload rfl rfl ?_
  refine Ev.iload_n rfl rfl ?_
  refine Ev.cS2 rfl rfl rfl (by decide) ⟨(Nat.le_refl _), (Nat.le_refl _)⟩ (lessonOf_some hPj h6 hkk) ?_
  refine Ev.astore rfl rfl rfl ?_
  refine Ev.aload rfl rfl ?_
  refine Ev.ifnull rfl ?_
  refine Ev.aload rfl rfl ?_
  refine Ev.ifnull rfl ?_
  refine Ev.aload rfl rfl ?_
  refine Ev.iload rfl rfl ?_
  refine Ev.cV1 rfl rfl h0 rfl rfl (by decide) ⟨(Nat.le_refl _), (Nat.le_refl _)⟩ (has_y hSi hn16 hl) ?_
  refine Ev.zeq (tgt := 58) rfl (by decide) (fun c43 => absurd c43 (by decide)) (fun c43 => ?_)
  refine Ev.iload rfl rfl ?_
  refine Ev.zlt (tgt := 58) rfl (by decide) (fun c48 => ?_) (fun c48 => absurd hb c48)
  refine Ev.iconst (v := (-1)) rfl (by decide) ?_
  refine Ev.iret (ty := .int) rfl rfl rfl (Nat.le_refl _) (Nat.le_refl _) ?_
  rw [← hQ]
  refine ⟨congrArg (fun v => some (Value.int v)) (Eq.symm ?_), rfl⟩
  rfl
def K_june_hi (T : Tol) (i j : Nat) (k0 l : Nat) (n : Int32) : Int32 := (-1 : Int32)
theorem june_hi_some (hX : isX σ x) (hT : isT σ (x + 1) T) (hw : wT T) {u v : Int32} {i j : Nat} (hg : gd T u v i j) {k0 : Nat} (hkk : k0 < (tP T j).1) {l : Nat} (hl : l < (tS T i).1) {n : Int32} (hc : ¬ n < 0) (hb : 12 < n) : RetV Γ m_SD_june [(.ref x), .int u, .int v, (.int (nI k0)), (.int (nI l)), (.int n)] σ (.int (K_june_hi T i j k0 l n)) := by
  unfold isX at hX
  obtain ⟨t0, t1, ⟨fs, t2, t3⟩, ⟨fp, t4, t5⟩, t6, t7⟩ := id hT
  obtain ⟨rfl, hi, rfl, hj, hgo⟩ := hg
  have hw1 := hw.2.1
  have hw2 := hw.2.2.1
  have hwS := hw.2.2.2.1 i hi
  have hwP := hw.2.2.2.2 j hj
  have hn16 := hwS.1
  have hn5 := hwS.2.1
  have h6 := hwP.1
  have hSi := t6 i (by omega)
  have hPj := t7 j (by omega)
  have hokL : ∀ k, k < (tP T j).1 → okL (tS T i) ((tP T j).2 k) := fun k hk => goT_okL hwS (hgo k hk).1
  obtain ⟨h0, h1, h2, h3, h4, h5, h6', h7, h8, h9, h10⟩ := id hSi
  obtain ⟨p0, ⟨pf, p1, p2⟩, p3⟩ := id hPj
  unfold RetV
  generalize hQ : (fun (r : Option Value) (σ' : ex_S) => r = some ((.int (K_june_hi T i j k0 l n)) : Value) ∧ σ' = σ) = Q
  refine Ret.start pm_35 rfl ?_
  refine Ev.aload_n rfl rfl ?_
  refine Ev.iload_n rfl rfl ?_
  refine Ev.iload_n rfl rfl ?_
  refine Ev.cV2 rfl rfl hX rfl rfl (by decide) ⟨(Nat.le_refl _), (Nat.le_refl _)⟩ (going_some hX hT hw ⟨rfl, hi, rfl, hj, hgo⟩) ?_
  refine Ev.astore rfl rfl rfl ?_
  refine Ev.aload_n rfl rfl ?_
  refine Ev.getf rfl rfl hX rfl ?_
  refine Ev.iload_n rfl rfl ?_
  refine Ev.cV1 rfl rfl t0 rfl rfl (by decide) ⟨(Nat.le_refl _), (Nat.le_refl _)⟩ (schoolAt_some hT hw1 hi) ?_
  refine Ev.astore rfl rfl rfl ?_
  refine Ev.aload rfl rfl ?_
  refine Ev.iload_n rfl rfl ?_
  refine Ev.cS2 rfl rfl rfl (by decide) ⟨(Nat.le_refl _), (Nat.le_refl _)⟩ (lessonOf_some hPj h6 hkk) ?_
  refine Ev.astore rfl rfl rfl ?_
  refine Ev.aload rfl rfl ?_
  refine Ev.ifnull rfl ?_
  refine Ev.aload rfl rfl ?_
  refine Ev.ifnull rfl ?_
  refine Ev.aload rfl rfl ?_
  refine Ev.iload rfl rfl ?_
  refine Ev.cV1 rfl rfl h0 rfl rfl (by decide) ⟨(Nat.le_refl _), (Nat.le_refl _)⟩ (has_y hSi hn16 hl) ?_
  refine Ev.zeq (tgt := 58) rfl (by decide) (fun c43 => absurd c43 (by decide)) (fun c43 => ?_)
  refine Ev.iload rfl rfl ?_
  refine Ev.zlt (tgt := 58) rfl (by decide) (fun c48 => absurd c48 hc) (fun c48 => ?_)
  refine Ev.iload rfl rfl ?_
  refine Ev.bipush (v := 12) rfl (by decide) ?_
  refine Ev.jle (tgt := 60) rfl (by decide) (fun c55 => absurd hb c55) (fun c55 => ?_)
  refine Ev.iconst (v := (-1)) rfl (by decide) ?_
  refine Ev.iret (ty := .int) rfl rfl rfl (Nat.le_refl _) (Nat.le_refl _) ?_
  rw [← hQ]
  refine ⟨congrArg (fun v => some (Value.int v)) (Eq.symm ?_), rfl⟩
  rfl
def K_m_june_bad (T : Tol) (i j : Nat) (k0 l : Nat) (n : Int32) : Int32 := (-1 : Int32)
theorem m_june_bad_some (hM : isM σ y g A) (hT : mT A 0 T) (hw : wT T) {u v : Int32} {i j : Nat} (hg : gd T u v i j) {k0 : Nat} (hkk : k0 < (tP T j).1) {l : Nat} (hl : l < (tS T i).1) {n : Int32} (hb : n < 0 ∨ 12 < n) : RetV Γ m_M_june [(.ref y), .int u, .int v, (.int (nI k0)), (.int (nI l)), (.int n)] σ (.int (K_m_june_bad T i j k0 l n)) := by
  obtain ⟨m0, m1⟩ := id hM
  have hgd := hg
  obtain ⟨rfl, hi, rfl, hj, hgo⟩ := hg
  have hi3 : i < 3 := by have := hw.2.1; omega
  have hj3 : j < 3 := by have := hw.2.2.1; omega
  have hwS := hw.2.2.2.1 i hi
  have hwP := hw.2.2.2.2 j hj
  have hn16 := hwS.1
  have hn5 := hwS.2.1
  have h6 := hwP.1
  have hS := hT.s hi
  have hP := hT.p hj
  have hs : 610 + 120 * i + 120 ≤ 4500 := by omega
  unfold RetV
  generalize hQ : (fun (r : Option Value) (σ' : ex_S) => r = some ((.int (K_m_june_bad T i j k0 l n)) : Value) ∧ σ' = σ) = Q
  refine Ret.start pm_264 rfl ?_
  refine Ev.aload_n rfl rfl ?_
  refine Ev.iload_n rfl rfl ?_
  refine Ev.iload_n rfl rfl ?_
  refine Ev.iload_n rfl rfl ?_
  refine Ev.cV3 rfl rfl m0 rfl rfl (by decide) ⟨(Nat.le_refl _), (Nat.le_refl _)⟩ (m_isGoing_yes hM hT hw hgd hkk) ?_
  refine Ev.zeq (tgt := 31) rfl (by decide) (fun c7 => absurd c7 (by decide)) (fun c7 => ?_)
  refine Ev.aload_n rfl rfl ?_
  refine Ev.iload_n rfl rfl ?_
  refine Ev.iload rfl rfl ?_
  refine Ev.cV2 rfl rfl m0 rfl rfl (by decide) ⟨(Nat.le_refl _), (Nat.le_refl _)⟩ (m_isLearner_yes hM hT hw hi hl) ?_
  refine Ev.zeq (tgt := 31) rfl (by decide) (fun c17 => absurd c17 (by decide)) (fun c17 => ?_)
  refine Ev.iload rfl rfl ?_
  refine Ev.iconst (v := 0) rfl (by decide) ?_
  refine Ev.bipush (v := 12) rfl (by decide) ?_
  refine Ev.cS3 rfl rfl rfl (by decide) ⟨(Nat.le_refl _), (Nat.le_refl _)⟩ (m_in_n (K_in_bad hb)) ?_
  refine Ev.zne (tgt := 33) rfl (by decide) (fun c28 => absurd (by decide) c28) (fun c28 => ?_)
  refine Ev.iconst (v := (-1)) rfl (by decide) ?_
  refine Ev.iret (ty := .int) rfl rfl rfl (Nat.le_refl _) (Nat.le_refl _) ?_
  rw [← hQ]
  refine ⟨congrArg (fun v => some (Value.int v)) (Eq.symm ?_), rfl⟩
  rfl
def K_more_lo (T : Tol) (i j : Nat) (k0 : Nat) (n : Int32) : Int32 := (-1000000 : Int32)
theorem more_lo_some (hX : isX σ x) (hT : isT σ (x + 1) T) (hw : wT T) {u v : Int32} {i j : Nat} (hg : gd T u v i j) {k0 : Nat} (hkk : k0 < (tP T j).1) {n : Int32} (hb : n < 0) : RetV Γ m_SD_more [(.ref x), .int u, .int v, (.int (nI k0)), (.int n)] σ (.int (K_more_lo T i j k0 n)) := by
  unfold isX at hX
  obtain ⟨t0, t1, ⟨fs, t2, t3⟩, ⟨fp, t4, t5⟩, t6, t7⟩ := id hT
  obtain ⟨rfl, hi, rfl, hj, hgo⟩ := hg
  have hw1 := hw.2.1
  have hw2 := hw.2.2.1
  have hwS := hw.2.2.2.1 i hi
  have hwP := hw.2.2.2.2 j hj
  have hn16 := hwS.1
  have hn5 := hwS.2.1
  have h6 := hwP.1
  have hSi := t6 i (by omega)
  have hPj := t7 j (by omega)
  have hokL : ∀ k, k < (tP T j).1 → okL (tS T i) ((tP T j).2 k) := fun k hk => goT_okL hwS (hgo k hk).1
  obtain ⟨h0, h1, h2, h3, h4, h5, h6', h7, h8, h9, h10⟩ := id hSi
  obtain ⟨p0, ⟨pf, p1, p2⟩, p3⟩ := id hPj
  unfold RetV
  generalize hQ : (fun (r : Option Value) (σ' : ex_S) => r = some ((.int (K_more_lo T i j k0 n)) : Value) ∧ σ' = σ) = Q
  refine Ret.start pm_30 rfl ?_
  refine Ev.aload_n rfl rfl ?_
  refine Ev.iload_n rfl rfl ?_
  refine Ev.iload_n rfl rfl ?_
  refine Ev.cV2 rfl rfl hX rfl rfl (by decide) ⟨(Nat.le_refl _), (Nat.le_refl _)⟩ (going_some hX hT hw ⟨rfl, hi, rfl, hj, hgo⟩) ?_
  refine Ev.astore rfl rfl rfl ?_
  refine Ev.aload_n rfl rfl ?_
  refine Ev.getf rfl rfl hX rfl ?_
  refine Ev.iload_n rfl rfl ?_
  refine Ev.cV1 rfl rfl t0 rfl rfl (by decide) ⟨(Nat.le_refl _), (Nat.le_refl _)⟩ (schoolAt_some hT hw1 hi) ?_
  refine Ev.astore rfl rfl rfl ?_
  refine Ev.aload rfl rfl ?_
  refine Ev.iload_n rfl rfl ?_
  refine Ev.cS2 rfl rfl rfl (by decide) ⟨(Nat.le_refl _), (Nat.le_refl _)⟩ (lessonOf_some hPj h6 hkk) ?_
  refine Ev.astore rfl rfl rfl ?_
  refine Ev.aload rfl rfl ?_
  refine Ev.ifnull rfl ?_
  refine Ev.aload rfl rfl ?_
  refine Ev.ifnull rfl ?_
  refine Ev.iload rfl rfl ?_
  refine Ev.zlt (tgt := 48) rfl (by decide) (fun c38 => ?_) (fun c38 => absurd hb c38)
  refine Ev.ldc (v := (-1000000)) rfl rfl ?_
  refine Ev.iret (ty := .int) rfl rfl rfl (Nat.le_refl _) (Nat.le_refl _) ?_
  rw [← hQ]
  refine ⟨congrArg (fun v => some (Value.int v)) (Eq.symm ?_), rfl⟩
  rfl
def K_more_hi (T : Tol) (i j : Nat) (k0 : Nat) (n : Int32) : Int32 := (-1000000 : Int32)
theorem more_hi_some (hX : isX σ x) (hT : isT σ (x + 1) T) (hw : wT T) {u v : Int32} {i j : Nat} (hg : gd T u v i j) {k0 : Nat} (hkk : k0 < (tP T j).1) {n : Int32} (hc : ¬ n < 0) (hb : 11 < n) : RetV Γ m_SD_more [(.ref x), .int u, .int v, (.int (nI k0)), (.int n)] σ (.int (K_more_hi T i j k0 n)) := by
  unfold isX at hX
  obtain ⟨t0, t1, ⟨fs, t2, t3⟩, ⟨fp, t4, t5⟩, t6, t7⟩ := id hT
  obtain ⟨rfl, hi, rfl, hj, hgo⟩ := hg
  have hw1 := hw.2.1
  have hw2 := hw.2.2.1
  have hwS := hw.2.2.2.1 i hi
  have hwP := hw.2.2.2.2 j hj
  have hn16 := hwS.1
  have hn5 := hwS.2.1
  have h6 := hwP.1
  have hSi := t6 i (by omega)
  have hPj := t7 j (by omega)
  have hokL : ∀ k, k < (tP T j).1 → okL (tS T i) ((tP T j).2 k) := fun k hk => goT_okL hwS (hgo k hk).1
  obtain ⟨h0, h1, h2, h3, h4, h5, h6', h7, h8, h9, h10⟩ := id hSi
  obtain ⟨p0, ⟨pf, p1, p2⟩, p3⟩ := id hPj
  unfold RetV
  generalize hQ : (fun (r : Option Value) (σ' : ex_S) => r = some ((.int (K_more_hi T i j k0 n)) : Value) ∧ σ' = σ) = Q
  refine Ret.start pm_30 rfl ?_
  refine Ev.aload_n rfl rfl ?_
  refine Ev.iload_n rfl rfl ?_
  refine Ev.iload_n rfl rfl ?_
  refine Ev.cV2 rfl rfl hX rfl rfl (by decide) ⟨(Nat.le_refl _), (Nat.le_refl _)⟩ (going_some hX hT hw ⟨rfl, hi, rfl, hj, hgo⟩) ?_
  refine Ev.astore rfl rfl rfl ?_
  refine Ev.aload_n rfl rfl ?_
  refine Ev.getf rfl rfl hX rfl ?_
  refine Ev.iload_n rfl rfl ?_
  refine Ev.cV1 rfl rfl t0 rfl rfl (by decide) ⟨(Nat.le_refl _), (Nat.le_refl _)⟩ (schoolAt_some hT hw1 hi) ?_
  refine Ev.astore rfl rfl rfl ?_
  refine Ev.aload rfl rfl ?_
  refine Ev.iload_n rfl rfl ?_
  refine Ev.cS2 rfl rfl rfl (by decide) ⟨(Nat.le_refl _), (Nat.le_refl _)⟩ (lessonOf_some hPj h6 hkk) ?_
  refine Ev.astore rfl rfl rfl ?_
  refine Ev.aload rfl rfl ?_
  refine Ev.ifnull rfl ?_
  refine Ev.aload rfl rfl ?_
  refine Ev.ifnull rfl ?_
  refine Ev.iload rfl rfl ?_
  refine Ev.zlt (tgt := 48) rfl (by decide) (fun c38 => absurd c38 hc) (fun c38 => ?_)
  refine Ev.iload rfl rfl ?_
  refine Ev.bipush (v := 11) rfl (by decide) ?_
  refine Ev.jle (tgt := 51) rfl (by decide) (fun c45 => absurd hb c45) (fun c45 => ?_)
  refine Ev.ldc (v := (-1000000)) rfl rfl ?_
  refine Ev.iret (ty := .int) rfl rfl rfl (Nat.le_refl _) (Nat.le_refl _) ?_
  rw [← hQ]
  refine ⟨congrArg (fun v => some (Value.int v)) (Eq.symm ?_), rfl⟩
  rfl
def K_m_more_bad (T : Tol) (i j : Nat) (k0 : Nat) (n : Int32) : Int32 := (-1000000 : Int32)
theorem m_more_bad_some (hM : isM σ y g A) (hT : mT A 0 T) (hw : wT T) {u v : Int32} {i j : Nat} (hg : gd T u v i j) {k0 : Nat} (hkk : k0 < (tP T j).1) {n : Int32} (hb : n < 0 ∨ 11 < n) : RetV Γ m_M_more [(.ref y), .int u, .int v, (.int (nI k0)), (.int n)] σ (.int (K_m_more_bad T i j k0 n)) := by
  obtain ⟨m0, m1⟩ := id hM
  have hgd := hg
  obtain ⟨rfl, hi, rfl, hj, hgo⟩ := hg
  have hi3 : i < 3 := by have := hw.2.1; omega
  have hj3 : j < 3 := by have := hw.2.2.1; omega
  have hwS := hw.2.2.2.1 i hi
  have hwP := hw.2.2.2.2 j hj
  have hn16 := hwS.1
  have hn5 := hwS.2.1
  have h6 := hwP.1
  have hS := hT.s hi
  have hP := hT.p hj
  have hs : 610 + 120 * i + 120 ≤ 4500 := by omega
  unfold RetV
  generalize hQ : (fun (r : Option Value) (σ' : ex_S) => r = some ((.int (K_m_more_bad T i j k0 n)) : Value) ∧ σ' = σ) = Q
  refine Ret.start pm_258 rfl ?_
  refine Ev.aload_n rfl rfl ?_
  refine Ev.iload_n rfl rfl ?_
  refine Ev.iload_n rfl rfl ?_
  refine Ev.iload_n rfl rfl ?_
  refine Ev.cV3 rfl rfl m0 rfl rfl (by decide) ⟨(Nat.le_refl _), (Nat.le_refl _)⟩ (m_isGoing_yes hM hT hw hgd hkk) ?_
  refine Ev.zeq (tgt := 21) rfl (by decide) (fun c7 => absurd c7 (by decide)) (fun c7 => ?_)
  refine Ev.iload rfl rfl ?_
  refine Ev.iconst (v := 0) rfl (by decide) ?_
  refine Ev.bipush (v := 11) rfl (by decide) ?_
  refine Ev.cS3 rfl rfl rfl (by decide) ⟨(Nat.le_refl _), (Nat.le_refl _)⟩ (m_in_n (K_in_bad hb)) ?_
  refine Ev.zne (tgt := 24) rfl (by decide) (fun c18 => absurd (by decide) c18) (fun c18 => ?_)
  refine Ev.ldc (v := (-1000000)) rfl rfl ?_
  refine Ev.iret (ty := .int) rfl rfl rfl (Nat.le_refl _) (Nat.le_refl _) ?_
  rw [← hQ]
  refine ⟨congrArg (fun v => some (Value.int v)) (Eq.symm ?_), rfl⟩
  rfl
def K_shift_nok (T : Tol) (i j : Nat) (k : Int32) : Int32 := (-1 : Int32)
theorem shift_nok_some (hX : isX σ x) (hT : isT σ (x + 1) T) (hw : wT T) {u v : Int32} {i j : Nat} (hg : gd T u v i j) {k : Int32} (hk : k < 0 ∨ nI (tP T j).1 ≤ k) : RetV Γ m_SD_shift [(.ref x), .int u, .int v, (.int k)] σ (.int (K_shift_nok T i j k)) := by
  unfold isX at hX
  obtain ⟨t0, t1, ⟨fs, t2, t3⟩, ⟨fp, t4, t5⟩, t6, t7⟩ := id hT
  obtain ⟨rfl, hi, rfl, hj, hgo⟩ := hg
  have hw1 := hw.2.1
  have hw2 := hw.2.2.1
  have hwS := hw.2.2.2.1 i hi
  have hwP := hw.2.2.2.2 j hj
  have hn16 := hwS.1
  have hn5 := hwS.2.1
  have h6 := hwP.1
  have hSi := t6 i (by omega)
  have hPj := t7 j (by omega)
  have hokL : ∀ k, k < (tP T j).1 → okL (tS T i) ((tP T j).2 k) := fun k hk => goT_okL hwS (hgo k hk).1
  obtain ⟨h0, h1, h2, h3, h4, h5, h6', h7, h8, h9, h10⟩ := id hSi
  obtain ⟨p0, ⟨pf, p1, p2⟩, p3⟩ := id hPj
  unfold RetV
  generalize hQ : (fun (r : Option Value) (σ' : ex_S) => r = some ((.int (K_shift_nok T i j k)) : Value) ∧ σ' = σ) = Q
  refine Ret.start pm_32 rfl ?_
  refine Ev.aload_n rfl rfl ?_
  refine Ev.iload_n rfl rfl ?_
  refine Ev.iload_n rfl rfl ?_
  refine Ev.cV2 rfl rfl hX rfl rfl (by decide) ⟨(Nat.le_refl _), (Nat.le_refl _)⟩ (going_some hX hT hw ⟨rfl, hi, rfl, hj, hgo⟩) ?_
  refine Ev.astore rfl rfl rfl ?_
  refine Ev.aload_n rfl rfl ?_
  refine Ev.getf rfl rfl hX rfl ?_
  refine Ev.iload_n rfl rfl ?_
  refine Ev.cV1 rfl rfl t0 rfl rfl (by decide) ⟨(Nat.le_refl _), (Nat.le_refl _)⟩ (schoolAt_some hT hw1 hi) ?_
  refine Ev.astore rfl rfl rfl ?_
  refine Ev.aload rfl rfl ?_
  refine Ev.iload_n rfl rfl ?_
  refine Ev.cS2 rfl rfl rfl (by decide) ⟨(Nat.le_refl _), (Nat.le_refl _)⟩ (lessonOf_none hPj hk) ?_
  refine Ev.astoreN rfl rfl rfl ?_
  refine Ev.aload rfl rfl ?_
  refine Ev.ifnull rfl ?_
  refine Ev.aloadN rfl rfl ?_
  refine Ev.ifnonnullN rfl ?_
  refine Ev.iconst (v := (-1)) rfl (by decide) ?_
  refine Ev.iret (ty := .int) rfl rfl rfl (Nat.le_refl _) (Nat.le_refl _) ?_
  rw [← hQ]
  refine ⟨congrArg (fun v => some (Value.int v)) (Eq.symm ?_), rfl⟩
  rfl
def K_m_shift_nok (T : Tol) (i j : Nat) (k : Int32) : Int32 := (-1 : Int32)
theorem m_shift_nok_some (hM : isM σ y g A) (hT : mT A 0 T) (hw : wT T) {u v : Int32} {i j : Nat} (hg : gd T u v i j) {k : Int32} (hk : k < 0 ∨ nI (tP T j).1 ≤ k) : RetV Γ m_M_shift [(.ref y), .int u, .int v, (.int k)] σ (.int (K_m_shift_nok T i j k)) := by
  obtain ⟨m0, m1⟩ := id hM
  have hgd := hg
  obtain ⟨rfl, hi, rfl, hj, hgo⟩ := hg
  have hi3 : i < 3 := by have := hw.2.1; omega
  have hj3 : j < 3 := by have := hw.2.2.1; omega
  have hwS := hw.2.2.2.1 i hi
  have hwP := hw.2.2.2.2 j hj
  have hn16 := hwS.1
  have hn5 := hwS.2.1
  have h6 := hwP.1
  have hS := hT.s hi
  have hP := hT.p hj
  have hs : 610 + 120 * i + 120 ≤ 4500 := by omega
  unfold RetV
  generalize hQ : (fun (r : Option Value) (σ' : ex_S) => r = some ((.int (K_m_shift_nok T i j k)) : Value) ∧ σ' = σ) = Q
  refine Ret.start pm_260 rfl ?_
  refine Ev.aload_n rfl rfl ?_
  refine Ev.iload_n rfl rfl ?_
  refine Ev.iload_n rfl rfl ?_
  refine Ev.iload_n rfl rfl ?_
  refine Ev.cV3 rfl rfl m0 rfl rfl (by decide) ⟨(Nat.le_refl _), (Nat.le_refl _)⟩ (m_isGoing_nok hM hT hw hgd hk) ?_
  refine Ev.zne (tgt := 12) rfl (by decide) (fun c7 => absurd (by decide) c7) (fun c7 => ?_)
  refine Ev.iconst (v := (-1)) rfl (by decide) ?_
  refine Ev.iret (ty := .int) rfl rfl rfl (Nat.le_refl _) (Nat.le_refl _) ?_
  rw [← hQ]
  refine ⟨congrArg (fun v => some (Value.int v)) (Eq.symm ?_), rfl⟩
  rfl
def K_holds_lo (T : Tol) (i j : Nat) (sd n : Int32) (k0 : Nat) : Int32 := (-1 : Int32)
theorem holds_lo_some (hX : isX σ x) (hT : isT σ (x + 1) T) (hw : wT T) {u v : Int32} {i j : Nat} (hg : gd T u v i j) {k0 : Nat} (hkk : k0 < (tP T j).1) {sd n : Int32} (hb : n < 1) : RetV Γ m_SD_holds [(.ref x), .int u, .int v, (.int sd), (.int n), (.int (nI k0))] σ (.int (K_holds_lo T i j sd n k0)) := by
  unfold isX at hX
  obtain ⟨t0, t1, ⟨fs, t2, t3⟩, ⟨fp, t4, t5⟩, t6, t7⟩ := id hT
  obtain ⟨rfl, hi, rfl, hj, hgo⟩ := hg
  have hw1 := hw.2.1
  have hw2 := hw.2.2.1
  have hwS := hw.2.2.2.1 i hi
  have hwP := hw.2.2.2.2 j hj
  have hn16 := hwS.1
  have hn5 := hwS.2.1
  have h6 := hwP.1
  have hSi := t6 i (by omega)
  have hPj := t7 j (by omega)
  have hokL : ∀ k, k < (tP T j).1 → okL (tS T i) ((tP T j).2 k) := fun k hk => goT_okL hwS (hgo k hk).1
  obtain ⟨h0, h1, h2, h3, h4, h5, h6', h7, h8, h9, h10⟩ := id hSi
  obtain ⟨p0, ⟨pf, p1, p2⟩, p3⟩ := id hPj
  unfold RetV
  generalize hQ : (fun (r : Option Value) (σ' : ex_S) => r = some ((.int (K_holds_lo T i j sd n k0)) : Value) ∧ σ' = σ) = Q
  refine Ret.start pm_39 rfl ?_
  refine Ev.aload_n rfl rfl ?_
  refine Ev.iload_n rfl rfl ?_
  refine Ev.iload_n rfl rfl ?_
  refine Ev.cV2 rfl rfl hX rfl rfl (by decide) ⟨(Nat.le_refl _), (Nat.le_refl _)⟩ (going_some hX hT hw ⟨rfl, hi, rfl, hj, hgo⟩) ?_
  refine Ev.astore rfl rfl rfl ?_
  refine Ev.aload_n rfl rfl ?_
  refine Ev.getf rfl rfl hX rfl ?_
  refine Ev.iload_n rfl rfl ?_
  refine Ev.cV1 rfl rfl t0 rfl rfl (by decide) ⟨(Nat.le_refl _), (Nat.le_refl _)⟩ (schoolAt_some hT hw1 hi) ?_
  refine Ev.astore rfl rfl rfl ?_
  refine Ev.aload rfl rfl ?_
  refine Ev.ifnull rfl ?_
  refine Ev.aload rfl rfl ?_
  refine Ev.ifnull rfl ?_
  refine Ev.aload rfl rfl ?_
  refine Ev.iload rfl rfl ?_
  refine Ev.cS2 rfl rfl rfl (by decide) ⟨(Nat.le_refl _), (Nat.le_refl _)⟩ (lessonOf_some hPj h6 hkk) ?_
  refine Ev.ifnull rfl ?_
  refine Ev.iload rfl rfl ?_
  refine Ev.iconst (v := 1) rfl (by decide) ?_
  refine Ev.jlt (tgt := 51) rfl (by decide) (fun c41 => ?_) (fun c41 => absurd hb c41)
  refine Ev.iconst (v := (-1)) rfl (by decide) ?_
  refine Ev.iret (ty := .int) rfl rfl rfl (Nat.le_refl _) (Nat.le_refl _) ?_
  rw [← hQ]
  refine ⟨congrArg (fun v => some (Value.int v)) (Eq.symm ?_), rfl⟩
  rfl
def K_holds_hi (T : Tol) (i j : Nat) (sd n : Int32) (k0 : Nat) : Int32 := (-1 : Int32)
theorem holds_hi_some (hX : isX σ x) (hT : isT σ (x + 1) T) (hw : wT T) {u v : Int32} {i j : Nat} (hg : gd T u v i j) {k0 : Nat} (hkk : k0 < (tP T j).1) {sd n : Int32} (hc : ¬ n < 1) (hb : 8 < n) : RetV Γ m_SD_holds [(.ref x), .int u, .int v, (.int sd), (.int n), (.int (nI k0))] σ (.int (K_holds_hi T i j sd n k0)) := by
  unfold isX at hX
  obtain ⟨t0, t1, ⟨fs, t2, t3⟩, ⟨fp, t4, t5⟩, t6, t7⟩ := id hT
  obtain ⟨rfl, hi, rfl, hj, hgo⟩ := hg
  have hw1 := hw.2.1
  have hw2 := hw.2.2.1
  have hwS := hw.2.2.2.1 i hi
  have hwP := hw.2.2.2.2 j hj
  have hn16 := hwS.1
  have hn5 := hwS.2.1
  have h6 := hwP.1
  have hSi := t6 i (by omega)
  have hPj := t7 j (by omega)
  have hokL : ∀ k, k < (tP T j).1 → okL (tS T i) ((tP T j).2 k) := fun k hk => goT_okL hwS (hgo k hk).1
  obtain ⟨h0, h1, h2, h3, h4, h5, h6', h7, h8, h9, h10⟩ := id hSi
  obtain ⟨p0, ⟨pf, p1, p2⟩, p3⟩ := id hPj
  unfold RetV
  generalize hQ : (fun (r : Option Value) (σ' : ex_S) => r = some ((.int (K_holds_hi T i j sd n k0)) : Value) ∧ σ' = σ) = Q
  refine Ret.start pm_39 rfl ?_
  refine Ev.aload_n rfl rfl ?_
  refine Ev.iload_n rfl rfl ?_
  refine Ev.iload_n rfl rfl ?_
  refine Ev.cV2 rfl rfl hX rfl rfl (by decide) ⟨(Nat.le_refl _), (Nat.le_refl _)⟩ (going_some hX hT hw ⟨rfl, hi, rfl, hj, hgo⟩) ?_
  refine Ev.astore rfl rfl rfl ?_
  refine Ev.aload_n rfl rfl ?_
  refine Ev.getf rfl rfl hX rfl ?_
  refine Ev.iload_n rfl rfl ?_
  refine Ev.cV1 rfl rfl t0 rfl rfl (by decide) ⟨(Nat.le_refl _), (Nat.le_refl _)⟩ (schoolAt_some hT hw1 hi) ?_
  refine Ev.astore rfl rfl rfl ?_
  refine Ev.aload rfl rfl ?_
  refine Ev.ifnull rfl ?_
  refine Ev.aload rfl rfl ?_
  refine Ev.ifnull rfl ?_
  refine Ev.aload rfl rfl ?_
  refine Ev.iload rfl rfl ?_
  refine Ev.cS2 rfl rfl rfl (by decide) ⟨(Nat.le_refl _), (Nat.le_refl _)⟩ (lessonOf_some hPj h6 hkk) ?_
  refine Ev.ifnull rfl ?_
  refine Ev.iload rfl rfl ?_
  refine Ev.iconst (v := 1) rfl (by decide) ?_
  refine Ev.jlt (tgt := 51) rfl (by decide) (fun c41 => absurd c41 hc) (fun c41 => ?_)
  refine Ev.iload rfl rfl ?_
  refine Ev.bipush (v := 8) rfl (by decide) ?_
  refine Ev.jle (tgt := 53) rfl (by decide) (fun c48 => absurd hb c48) (fun c48 => ?_)
  refine Ev.iconst (v := (-1)) rfl (by decide) ?_
  refine Ev.iret (ty := .int) rfl rfl rfl (Nat.le_refl _) (Nat.le_refl _) ?_
  rw [← hQ]
  refine ⟨congrArg (fun v => some (Value.int v)) (Eq.symm ?_), rfl⟩
  rfl
def K_m_holds_bad (T : Tol) (i j : Nat) (sd n : Int32) (k0 : Nat) : Int32 := (-1 : Int32)
theorem m_holds_bad_some (hM : isM σ y g A) (hT : mT A 0 T) (hw : wT T) {u v : Int32} {i j : Nat} (hg : gd T u v i j) {k0 : Nat} (hkk : k0 < (tP T j).1) {sd n : Int32} (hb : n < 1 ∨ 8 < n) : RetV Γ m_M_holds [(.ref y), .int u, .int v, (.int sd), (.int n), (.int (nI k0))] σ (.int (K_m_holds_bad T i j sd n k0)) := by
  obtain ⟨m0, m1⟩ := id hM
  have hgd := hg
  obtain ⟨rfl, hi, rfl, hj, hgo⟩ := hg
  have hi3 : i < 3 := by have := hw.2.1; omega
  have hj3 : j < 3 := by have := hw.2.2.1; omega
  have hwS := hw.2.2.2.1 i hi
  have hwP := hw.2.2.2.2 j hj
  have hn16 := hwS.1
  have hn5 := hwS.2.1
  have h6 := hwP.1
  have hS := hT.s hi
  have hP := hT.p hj
  have hs : 610 + 120 * i + 120 ≤ 4500 := by omega
  unfold RetV
  generalize hQ : (fun (r : Option Value) (σ' : ex_S) => r = some ((.int (K_m_holds_bad T i j sd n k0)) : Value) ∧ σ' = σ) = Q
  refine Ret.start pm_269 rfl ?_
  refine Ev.aload_n rfl rfl ?_
  refine Ev.iload_n rfl rfl ?_
  refine Ev.iload_n rfl rfl ?_
  refine Ev.iload rfl rfl ?_
  refine Ev.cV3 rfl rfl m0 rfl rfl (by decide) ⟨(Nat.le_refl _), (Nat.le_refl _)⟩ (m_isGoing_yes hM hT hw hgd hkk) ?_
  refine Ev.zeq (tgt := 22) rfl (by decide) (fun c8 => absurd c8 (by decide)) (fun c8 => ?_)
  refine Ev.iload rfl rfl ?_
  refine Ev.iconst (v := 1) rfl (by decide) ?_
  refine Ev.bipush (v := 8) rfl (by decide) ?_
  refine Ev.cS3 rfl rfl rfl (by decide) ⟨(Nat.le_refl _), (Nat.le_refl _)⟩ (m_in_n (K_in_bad hb)) ?_
  refine Ev.zne (tgt := 24) rfl (by decide) (fun c19 => absurd (by decide) c19) (fun c19 => ?_)
  refine Ev.iconst (v := (-1)) rfl (by decide) ?_
  refine Ev.iret (ty := .int) rfl rfl rfl (Nat.le_refl _) (Nat.le_refl _) ?_
  rw [← hQ]
  refine ⟨congrArg (fun v => some (Value.int v)) (Eq.symm ?_), rfl⟩
  rfl
def K_weeks_lo (T : Tol) (i j : Nat) (sd n k : Int32) : Int32 := (-1 : Int32)
theorem weeks_lo_some (hX : isX σ x) (hT : isT σ (x + 1) T) (hw : wT T) {u v : Int32} {i j : Nat} (hg : gd T u v i j) {sd n k : Int32} (hb : n < 0) : RetV Γ m_SD_weeks [(.ref x), .int u, .int v, (.int sd), (.int n), (.int k)] σ (.int (K_weeks_lo T i j sd n k)) := by
  unfold isX at hX
  obtain ⟨t0, t1, ⟨fs, t2, t3⟩, ⟨fp, t4, t5⟩, t6, t7⟩ := id hT
  obtain ⟨rfl, hi, rfl, hj, hgo⟩ := hg
  have hw1 := hw.2.1
  have hw2 := hw.2.2.1
  have hwS := hw.2.2.2.1 i hi
  have hwP := hw.2.2.2.2 j hj
  have hn16 := hwS.1
  have hn5 := hwS.2.1
  have h6 := hwP.1
  have hSi := t6 i (by omega)
  have hPj := t7 j (by omega)
  have hokL : ∀ k, k < (tP T j).1 → okL (tS T i) ((tP T j).2 k) := fun k hk => goT_okL hwS (hgo k hk).1
  obtain ⟨h0, h1, h2, h3, h4, h5, h6', h7, h8, h9, h10⟩ := id hSi
  obtain ⟨p0, ⟨pf, p1, p2⟩, p3⟩ := id hPj
  unfold RetV
  generalize hQ : (fun (r : Option Value) (σ' : ex_S) => r = some ((.int (K_weeks_lo T i j sd n k)) : Value) ∧ σ' = σ) = Q
  refine Ret.start pm_27 rfl ?_
  refine Ev.aload_n rfl rfl ?_
  refine Ev.iload_n rfl rfl ?_
  refine Ev.iload_n rfl rfl ?_
  refine Ev.cV2 rfl rfl hX rfl rfl (by decide) ⟨(Nat.le_refl _), (Nat.le_refl _)⟩ (going_some hX hT hw ⟨rfl, hi, rfl, hj, hgo⟩) ?_
  refine Ev.astore rfl rfl rfl ?_
  refine Ev.aload_n rfl rfl ?_
  refine Ev.getf rfl rfl hX rfl ?_
  refine Ev.iload_n rfl rfl ?_
  refine Ev.cV1 rfl rfl t0 rfl rfl (by decide) ⟨(Nat.le_refl _), (Nat.le_refl _)⟩ (schoolAt_some hT hw1 hi) ?_
  refine Ev.astore rfl rfl rfl ?_
  refine Ev.aload rfl rfl ?_
  refine Ev.ifnull rfl ?_
  refine Ev.aload rfl rfl ?_
  refine Ev.ifnull rfl ?_
  refine Ev.iload rfl rfl ?_
  refine Ev.zlt (tgt := 46) rfl (by decide) (fun c30 => ?_) (fun c30 => absurd hb c30)
  refine Ev.iconst (v := (-1)) rfl (by decide) ?_
  refine Ev.iret (ty := .int) rfl rfl rfl (Nat.le_refl _) (Nat.le_refl _) ?_
  rw [← hQ]
  refine ⟨congrArg (fun v => some (Value.int v)) (Eq.symm ?_), rfl⟩
  rfl
def K_weeks_hi (T : Tol) (i j : Nat) (sd n k : Int32) : Int32 := (-1 : Int32)
theorem weeks_hi_some (hX : isX σ x) (hT : isT σ (x + 1) T) (hw : wT T) {u v : Int32} {i j : Nat} (hg : gd T u v i j) {sd n k : Int32} (hc : ¬ n < 0) (hb : (tS T i).2.2 9 7 < n) : RetV Γ m_SD_weeks [(.ref x), .int u, .int v, (.int sd), (.int n), (.int k)] σ (.int (K_weeks_hi T i j sd n k)) := by
  unfold isX at hX
  obtain ⟨t0, t1, ⟨fs, t2, t3⟩, ⟨fp, t4, t5⟩, t6, t7⟩ := id hT
  obtain ⟨rfl, hi, rfl, hj, hgo⟩ := hg
  have hw1 := hw.2.1
  have hw2 := hw.2.2.1
  have hwS := hw.2.2.2.1 i hi
  have hwP := hw.2.2.2.2 j hj
  have hn16 := hwS.1
  have hn5 := hwS.2.1
  have h6 := hwP.1
  have hSi := t6 i (by omega)
  have hPj := t7 j (by omega)
  have hokL : ∀ k, k < (tP T j).1 → okL (tS T i) ((tP T j).2 k) := fun k hk => goT_okL hwS (hgo k hk).1
  obtain ⟨h0, h1, h2, h3, h4, h5, h6', h7, h8, h9, h10⟩ := id hSi
  obtain ⟨p0, ⟨pf, p1, p2⟩, p3⟩ := id hPj
  unfold RetV
  generalize hQ : (fun (r : Option Value) (σ' : ex_S) => r = some ((.int (K_weeks_hi T i j sd n k)) : Value) ∧ σ' = σ) = Q
  refine Ret.start pm_27 rfl ?_
  refine Ev.aload_n rfl rfl ?_
  refine Ev.iload_n rfl rfl ?_
  refine Ev.iload_n rfl rfl ?_
  refine Ev.cV2 rfl rfl hX rfl rfl (by decide) ⟨(Nat.le_refl _), (Nat.le_refl _)⟩ (going_some hX hT hw ⟨rfl, hi, rfl, hj, hgo⟩) ?_
  refine Ev.astore rfl rfl rfl ?_
  refine Ev.aload_n rfl rfl ?_
  refine Ev.getf rfl rfl hX rfl ?_
  refine Ev.iload_n rfl rfl ?_
  refine Ev.cV1 rfl rfl t0 rfl rfl (by decide) ⟨(Nat.le_refl _), (Nat.le_refl _)⟩ (schoolAt_some hT hw1 hi) ?_
  refine Ev.astore rfl rfl rfl ?_
  refine Ev.aload rfl rfl ?_
  refine Ev.ifnull rfl ?_
  refine Ev.aload rfl rfl ?_
  refine Ev.ifnull rfl ?_
  refine Ev.iload rfl rfl ?_
  refine Ev.zlt (tgt := 46) rfl (by decide) (fun c30 => absurd c30 hc) (fun c30 => ?_)
  refine Ev.iload rfl rfl ?_
  refine Ev.aload rfl rfl ?_
  refine Ev.getf rfl rfl h0 rfl ?_
  refine Ev.bipush (v := 7) rfl (by decide) ?_
  refine Ev.ialdN (k := 7) rfl h10 (rfl : (7 : Int32) = nI 7) ⟨(by omega), by decide⟩ ?_
  refine Ev.jle (tgt := 48) rfl (by decide) (fun c43 => absurd hb c43) (fun c43 => ?_)
  refine Ev.iconst (v := (-1)) rfl (by decide) ?_
  refine Ev.iret (ty := .int) rfl rfl rfl (Nat.le_refl _) (Nat.le_refl _) ?_
  rw [← hQ]
  refine ⟨congrArg (fun v => some (Value.int v)) (Eq.symm ?_), rfl⟩
  rfl
def K_m_weeks_bad (T : Tol) (i j : Nat) (sd n k : Int32) : Int32 := (-1 : Int32)
theorem m_weeks_bad_some (hM : isM σ y g A) (hT : mT A 0 T) (hw : wT T) {u v : Int32} {i j : Nat} (hg : gd T u v i j) {sd n k : Int32} (hb : n < 0 ∨ (tS T i).2.2 9 7 < n) : RetV Γ m_M_weeks [(.ref y), .int u, .int v, (.int sd), (.int n), (.int k)] σ (.int (K_m_weeks_bad T i j sd n k)) := by
  obtain ⟨m0, m1⟩ := id hM
  have hgd := hg
  obtain ⟨rfl, hi, rfl, hj, hgo⟩ := hg
  have hi3 : i < 3 := by have := hw.2.1; omega
  have hj3 : j < 3 := by have := hw.2.2.1; omega
  have hwS := hw.2.2.2.1 i hi
  have hwP := hw.2.2.2.2 j hj
  have hn16 := hwS.1
  have hn5 := hwS.2.1
  have h6 := hwP.1
  have hS := hT.s hi
  have hP := hT.p hj
  have hs : 610 + 120 * i + 120 ≤ 4500 := by omega
  unfold RetV
  generalize hQ : (fun (r : Option Value) (σ' : ex_S) => r = some ((.int (K_m_weeks_bad T i j sd n k)) : Value) ∧ σ' = σ) = Q
  refine Ret.start pm_255 rfl ?_
  refine Ev.aload_n rfl rfl ?_
  refine Ev.iload_n rfl rfl ?_
  refine Ev.iload_n rfl rfl ?_
  refine Ev.cV2 rfl rfl m0 rfl rfl (by decide) ⟨(Nat.le_refl _), (Nat.le_refl _)⟩ (m_goes_yes hM hT hw hgd) ?_
  refine Ev.zeq (tgt := 53) rfl (by decide) (fun c6 => absurd c6 (by decide)) (fun c6 => ?_)
  refine Ev.iload rfl rfl ?_
  refine Ev.iconst (v := 0) rfl (by decide) ?_
  refine Ev.aload_n rfl rfl ?_
  refine Ev.getf rfl rfl m0 rfl ?_
  refine Ev.iconst (v := 0) rfl (by decide) ?_
  refine Ev.iload_n rfl rfl ?_
  refine Ev.cS2 rfl rfl rfl (by decide) ⟨(Nat.le_refl _), (Nat.le_refl _)⟩ (m_pl0_ok i) ?_
  refine Ev.bipush (v := 9) rfl (by decide) ?_
  refine Ev.iadd rfl ?_
  refine Ev.ialdN (k := 610 + 120 * i + 9) rfl m1 (nq_to (a := 610 + 120 * i + 9) (nq_add (a := 610 + 120 * i) (b := 9) rfl (rfl : (9 : Int32) = nI 9)) (by omega)) ⟨(by omega), by decide⟩ ?_
  rw [show A (610 + 120 * i + 9) = _ from hS.2.2.1 7 (by decide)]
  refine Ev.cS3 rfl rfl rfl (by decide) ⟨(Nat.le_refl _), (Nat.le_refl _)⟩ (m_in_n (K_in_bad hb)) ?_
  refine Ev.zeq (tgt := 53) rfl (by decide) (fun c28 => ?_) (fun c28 => absurd (by decide) c28)
  refine Ev.iconst (v := (-1)) rfl (by decide) ?_
  refine Ev.iret (ty := .int) rfl rfl rfl (Nat.le_refl _) (Nat.le_refl _) ?_
  rw [← hQ]
  refine ⟨congrArg (fun v => some (Value.int v)) (Eq.symm ?_), rfl⟩
  rfl
def K_weeks_nok (T : Tol) (i j : Nat) (sd k : Int32) (w : Nat) : Int32 := (-1 : Int32)
theorem weeks_nok_some (hX : isX σ x) (hT : isT σ (x + 1) T) (hw : wT T) {u v : Int32} {i j : Nat} (hg : gd T u v i j) {sd k : Int32} {w : Nat} (hww : w ≤ ((tS T i).2.2 9 7).toNatClampNeg) (hk1 : ¬ k = -1) (hk : k < 0 ∨ nI (tP T j).1 ≤ k) : RetV Γ m_SD_weeks [(.ref x), .int u, .int v, (.int sd), (.int (nI w)), (.int k)] σ (.int (K_weeks_nok T i j sd k w)) := by
  unfold isX at hX
  obtain ⟨t0, t1, ⟨fs, t2, t3⟩, ⟨fp, t4, t5⟩, t6, t7⟩ := id hT
  obtain ⟨rfl, hi, rfl, hj, hgo⟩ := hg
  have hw1 := hw.2.1
  have hw2 := hw.2.2.1
  have hwS := hw.2.2.2.1 i hi
  have hwP := hw.2.2.2.2 j hj
  have hn16 := hwS.1
  have hn5 := hwS.2.1
  have h6 := hwP.1
  have hSi := t6 i (by omega)
  have hPj := t7 j (by omega)
  have hokL : ∀ k, k < (tP T j).1 → okL (tS T i) ((tP T j).2 k) := fun k hk => goT_okL hwS (hgo k hk).1
  obtain ⟨h0, h1, h2, h3, h4, h5, h6', h7, h8, h9, h10⟩ := id hSi
  obtain ⟨p0, ⟨pf, p1, p2⟩, p3⟩ := id hPj
  have hwl := wk_cl hwS
  unfold RetV
  generalize hQ : (fun (r : Option Value) (σ' : ex_S) => r = some ((.int (K_weeks_nok T i j sd k w)) : Value) ∧ σ' = σ) = Q
  refine Ret.start pm_27 rfl ?_
  refine Ev.aload_n rfl rfl ?_
  refine Ev.iload_n rfl rfl ?_
  refine Ev.iload_n rfl rfl ?_
  refine Ev.cV2 rfl rfl hX rfl rfl (by decide) ⟨(Nat.le_refl _), (Nat.le_refl _)⟩ (going_some hX hT hw ⟨rfl, hi, rfl, hj, hgo⟩) ?_
  refine Ev.astore rfl rfl rfl ?_
  refine Ev.aload_n rfl rfl ?_
  refine Ev.getf rfl rfl hX rfl ?_
  refine Ev.iload_n rfl rfl ?_
  refine Ev.cV1 rfl rfl t0 rfl rfl (by decide) ⟨(Nat.le_refl _), (Nat.le_refl _)⟩ (schoolAt_some hT hw1 hi) ?_
  refine Ev.astore rfl rfl rfl ?_
  refine Ev.aload rfl rfl ?_
  refine Ev.ifnull rfl ?_
  refine Ev.aload rfl rfl ?_
  refine Ev.ifnull rfl ?_
  refine Ev.iload rfl rfl ?_
  refine Ev.zlt (tgt := 46) rfl (by decide) (fun c30 => absurd c30 (nI_pos (by omega))) (fun c30 => ?_)
  refine Ev.iload rfl rfl ?_
  refine Ev.aload rfl rfl ?_
  refine Ev.getf rfl rfl h0 rfl ?_
  refine Ev.bipush (v := 7) rfl (by decide) ?_
  refine Ev.ialdN (k := 7) rfl h10 (rfl : (7 : Int32) = nI 7) ⟨(by omega), by decide⟩ ?_
  refine Ev.jle (tgt := 48) rfl (by decide) (fun c43 => ?_) (fun c43 => absurd c43 (wk_n hwS hww))
  refine Ev.iload rfl rfl ?_
  refine Ev.iconst (v := (-1)) rfl (by decide) ?_
  refine Ev.jeq (tgt := 66) rfl (by decide) (fun c51 => absurd c51 hk1) (fun c51 => ?_)
  refine Ev.aload rfl rfl ?_
  refine Ev.iload rfl rfl ?_
  refine Ev.cS2 rfl rfl rfl (by decide) ⟨(Nat.le_refl _), (Nat.le_refl _)⟩ (lessonOf_none hPj hk) ?_
  refine Ev.ifnonnullN rfl ?_
  refine Ev.iconst (v := (-1)) rfl (by decide) ?_
  refine Ev.iret (ty := .int) rfl rfl rfl (Nat.le_refl _) (Nat.le_refl _) ?_
  rw [← hQ]
  refine ⟨congrArg (fun v => some (Value.int v)) (Eq.symm ?_), rfl⟩
  rfl
theorem K_in_wk {S : Sch} (hw : wS S) {w : Nat} (h : w ≤ (S.2.2 9 7).toNatClampNeg) : K_in (nI w) 0 (S.2.2 9 7) = 1 := by
  obtain ⟨h1, h2⟩ := wk_cl hw
  unfold K_in
  rw [if_neg (nI_pos (by omega)), if_neg (wk_n hw h)]
def K_m_weeks_nok (T : Tol) (i j : Nat) (sd k : Int32) (w : Nat) : Int32 := (-1 : Int32)
theorem m_weeks_nok_some (hM : isM σ y g A) (hT : mT A 0 T) (hw : wT T) {u v : Int32} {i j : Nat} (hg : gd T u v i j) {sd k : Int32} {w : Nat} (hww : w ≤ ((tS T i).2.2 9 7).toNatClampNeg) (hk1 : ¬ k = -1) (hk : k < 0 ∨ nI (tP T j).1 ≤ k) : RetV Γ m_M_weeks [(.ref y), .int u, .int v, (.int sd), (.int (nI w)), (.int k)] σ (.int (K_m_weeks_nok T i j sd k w)) := by
  obtain ⟨m0, m1⟩ := id hM
  have hgd := hg
  obtain ⟨rfl, hi, rfl, hj, hgo⟩ := hg
  have hi3 : i < 3 := by have := hw.2.1; omega
  have hj3 : j < 3 := by have := hw.2.2.1; omega
  have hwS := hw.2.2.2.1 i hi
  have hwP := hw.2.2.2.2 j hj
  have hn16 := hwS.1
  have hn5 := hwS.2.1
  have h6 := hwP.1
  have hS := hT.s hi
  have hP := hT.p hj
  have hs : 610 + 120 * i + 120 ≤ 4500 := by omega
  have hwl := wk_cl hwS
  unfold RetV
  generalize hQ : (fun (r : Option Value) (σ' : ex_S) => r = some ((.int (K_m_weeks_nok T i j sd k w)) : Value) ∧ σ' = σ) = Q
  refine Ret.start pm_255 rfl ?_
  refine Ev.aload_n rfl rfl ?_
  refine Ev.iload_n rfl rfl ?_
  refine Ev.iload_n rfl rfl ?_
  refine Ev.cV2 rfl rfl m0 rfl rfl (by decide) ⟨(Nat.le_refl _), (Nat.le_refl _)⟩ (m_goes_yes hM hT hw hgd) ?_
  refine Ev.zeq (tgt := 53) rfl (by decide) (fun c6 => absurd c6 (by decide)) (fun c6 => ?_)
  refine Ev.iload rfl rfl ?_
  refine Ev.iconst (v := 0) rfl (by decide) ?_
  refine Ev.aload_n rfl rfl ?_
  refine Ev.getf rfl rfl m0 rfl ?_
  refine Ev.iconst (v := 0) rfl (by decide) ?_
  refine Ev.iload_n rfl rfl ?_
  refine Ev.cS2 rfl rfl rfl (by decide) ⟨(Nat.le_refl _), (Nat.le_refl _)⟩ (m_pl0_ok i) ?_
  refine Ev.bipush (v := 9) rfl (by decide) ?_
  refine Ev.iadd rfl ?_
  refine Ev.ialdN (k := 610 + 120 * i + 9) rfl m1 (nq_to (a := 610 + 120 * i + 9) (nq_add (a := 610 + 120 * i) (b := 9) rfl (rfl : (9 : Int32) = nI 9)) (by omega)) ⟨(by omega), by decide⟩ ?_
  rw [show A (610 + 120 * i + 9) = _ from hS.2.2.1 7 (by decide)]
  refine Ev.cS3 rfl rfl rfl (by decide) ⟨(Nat.le_refl _), (Nat.le_refl _)⟩ (m_in_y (K_in_wk hwS hww)) ?_
  refine Ev.zeq (tgt := 53) rfl (by decide) (fun c28 => absurd c28 (by decide)) (fun c28 => ?_)
  refine Ev.iload rfl rfl ?_
  refine Ev.iconst (v := (-1)) rfl (by decide) ?_
  refine Ev.jeq (tgt := 55) rfl (by decide) (fun c34 => absurd c34 hk1) (fun c34 => ?_)
  refine Ev.iload rfl rfl ?_
  refine Ev.iconst (v := 0) rfl (by decide) ?_
  refine Ev.aload_n rfl rfl ?_
  refine Ev.iload_n rfl rfl ?_
  refine Ev.cV1 rfl rfl m0 rfl rfl (by decide) ⟨(Nat.le_refl _), (Nat.le_refl _)⟩ (m_classes_ok hM hP hj3 h6) ?_
  refine Ev.iconst (v := 1) rfl (by decide) ?_
  refine Ev.isub rfl ?_
  refine Ev.cS3 rfl rfl rfl (by decide) ⟨(Nat.le_refl _), (Nat.le_refl _)⟩ (m_in_n (K_in_no (by omega) hk)) ?_
  refine Ev.zne (tgt := 55) rfl (by decide) (fun c50 => absurd (by decide) c50) (fun c50 => ?_)
  refine Ev.iconst (v := (-1)) rfl (by decide) ?_
  refine Ev.iret (ty := .int) rfl rfl rfl (Nat.le_refl _) (Nat.le_refl _) ?_
  rw [← hQ]
  refine ⟨congrArg (fun v => some (Value.int v)) (Eq.symm ?_), rfl⟩
  rfl
def K_line_lo (T : Tol) (i : Nat) (k w : Int32) : Int32 := (-1 : Int32)
theorem line_lo_some (hX : isX σ x) (hT : isT σ (x + 1) T) (hw : wT T) {u : Int32} {i : Nat} (hg : u = nI i ∧ i < tSn T) {k w : Int32} (hb : k < 1) : RetV Γ m_SD_line [(.ref x), .int u, (.int k), (.int w)] σ (.int (K_line_lo T i k w)) := by
  unfold isX at hX
  obtain ⟨t0, t1, ⟨fs, t2, t3⟩, ⟨fp, t4, t5⟩, t6, t7⟩ := id hT
  obtain ⟨rfl, hi⟩ := hg
  have hw1 := hw.2.1
  have hwS := hw.2.2.2.1 i hi
  have hn16 := hwS.1
  have hn5 := hwS.2.1
  have hSi := t6 i (by omega)
  obtain ⟨h0, h1, h2, h3, h4, h5, h6', h7, h8, h9, h10⟩ := id hSi
  unfold RetV
  generalize hQ : (fun (r : Option Value) (σ' : ex_S) => r = some ((.int (K_line_lo T i k w)) : Value) ∧ σ' = σ) = Q
  refine Ret.start pm_16 rfl ?_
  refine Ev.aload_n rfl rfl ?_
  refine Ev.getf rfl rfl hX rfl ?_
  refine Ev.iload_n rfl rfl ?_
  refine Ev.cV1 rfl rfl t0 rfl rfl (by decide) ⟨(Nat.le_refl _), (Nat.le_refl _)⟩ (schoolAt_some hT hw1 hi) ?_
  refine Ev.astore rfl rfl rfl ?_
  refine Ev.aload rfl rfl ?_
  refine Ev.ifnull rfl ?_
  refine Ev.iload_n rfl rfl ?_
  refine Ev.iconst (v := 1) rfl (by decide) ?_
  refine Ev.jlt (tgt := 26) rfl (by decide) (fun c17 => ?_) (fun c17 => absurd hb c17)
  refine Ev.iconst (v := (-1)) rfl (by decide) ?_
  refine Ev.iret (ty := .int) rfl rfl rfl (Nat.le_refl _) (Nat.le_refl _) ?_
  rw [← hQ]
  refine ⟨congrArg (fun v => some (Value.int v)) (Eq.symm ?_), rfl⟩
  rfl
def K_line_hi (T : Tol) (i : Nat) (k w : Int32) : Int32 := (-1 : Int32)
theorem line_hi_some (hX : isX σ x) (hT : isT σ (x + 1) T) (hw : wT T) {u : Int32} {i : Nat} (hg : u = nI i ∧ i < tSn T) {k w : Int32} (hc : ¬ k < 1) (hb : 6 < k) : RetV Γ m_SD_line [(.ref x), .int u, (.int k), (.int w)] σ (.int (K_line_hi T i k w)) := by
  unfold isX at hX
  obtain ⟨t0, t1, ⟨fs, t2, t3⟩, ⟨fp, t4, t5⟩, t6, t7⟩ := id hT
  obtain ⟨rfl, hi⟩ := hg
  have hw1 := hw.2.1
  have hwS := hw.2.2.2.1 i hi
  have hn16 := hwS.1
  have hn5 := hwS.2.1
  have hSi := t6 i (by omega)
  obtain ⟨h0, h1, h2, h3, h4, h5, h6', h7, h8, h9, h10⟩ := id hSi
  unfold RetV
  generalize hQ : (fun (r : Option Value) (σ' : ex_S) => r = some ((.int (K_line_hi T i k w)) : Value) ∧ σ' = σ) = Q
  refine Ret.start pm_16 rfl ?_
  refine Ev.aload_n rfl rfl ?_
  refine Ev.getf rfl rfl hX rfl ?_
  refine Ev.iload_n rfl rfl ?_
  refine Ev.cV1 rfl rfl t0 rfl rfl (by decide) ⟨(Nat.le_refl _), (Nat.le_refl _)⟩ (schoolAt_some hT hw1 hi) ?_
  refine Ev.astore rfl rfl rfl ?_
  refine Ev.aload rfl rfl ?_
  refine Ev.ifnull rfl ?_
  refine Ev.iload_n rfl rfl ?_
  refine Ev.iconst (v := 1) rfl (by decide) ?_
  refine Ev.jlt (tgt := 26) rfl (by decide) (fun c17 => absurd c17 hc) (fun c17 => ?_)
  refine Ev.iload_n rfl rfl ?_
  refine Ev.bipush (v := 6) rfl (by decide) ?_
  refine Ev.jle (tgt := 28) rfl (by decide) (fun c23 => absurd hb c23) (fun c23 => ?_)
  refine Ev.iconst (v := (-1)) rfl (by decide) ?_
  refine Ev.iret (ty := .int) rfl rfl rfl (Nat.le_refl _) (Nat.le_refl _) ?_
  rw [← hQ]
  refine ⟨congrArg (fun v => some (Value.int v)) (Eq.symm ?_), rfl⟩
  rfl
def K_m_line_bad (T : Tol) (i : Nat) (k w : Int32) : Int32 := (-1 : Int32)
theorem m_line_bad_some (hM : isM σ y g A) (hT : mT A 0 T) (hw : wT T) {u : Int32} {i : Nat} (hg : u = nI i ∧ i < tSn T) {k w : Int32} (hb : k < 1 ∨ 6 < k) : RetV Γ m_M_line [(.ref y), .int u, (.int k), (.int w)] σ (.int (K_m_line_bad T i k w)) := by
  obtain ⟨m0, m1⟩ := id hM
  obtain ⟨rfl, hi⟩ := hg
  have hi3 : i < 3 := by have := hw.2.1; omega
  have hwS := hw.2.2.2.1 i hi
  have hn16 := hwS.1
  have hn5 := hwS.2.1
  have hS := hT.s hi
  have hs : 610 + 120 * i + 120 ≤ 4500 := by omega
  unfold RetV
  generalize hQ : (fun (r : Option Value) (σ' : ex_S) => r = some ((.int (K_m_line_bad T i k w)) : Value) ∧ σ' = σ) = Q
  refine Ret.start pm_227 rfl ?_
  refine Ev.aload_n rfl rfl ?_
  refine Ev.iconst (v := 0) rfl (by decide) ?_
  refine Ev.iload_n rfl rfl ?_
  refine Ev.cV2 rfl rfl m0 rfl rfl (by decide) ⟨(Nat.le_refl _), (Nat.le_refl _)⟩ (m_isOf0_yes hM hT hw hi) ?_
  refine Ev.zeq (tgt := 19) rfl (by decide) (fun c6 => absurd c6 (by decide)) (fun c6 => ?_)
  refine Ev.iload_n rfl rfl ?_
  refine Ev.iconst (v := 1) rfl (by decide) ?_
  refine Ev.bipush (v := 6) rfl (by decide) ?_
  refine Ev.cS3 rfl rfl rfl (by decide) ⟨(Nat.le_refl _), (Nat.le_refl _)⟩ (m_in_n (K_in_bad hb)) ?_
  refine Ev.zne (tgt := 21) rfl (by decide) (fun c16 => absurd (by decide) c16) (fun c16 => ?_)
  refine Ev.iconst (v := (-1)) rfl (by decide) ?_
  refine Ev.iret (ty := .int) rfl rfl rfl (Nat.le_refl _) (Nat.le_refl _) ?_
  rw [← hQ]
  refine ⟨congrArg (fun v => some (Value.int v)) (Eq.symm ?_), rfl⟩
  rfl
def K_ill_not (T : Tol) (i j : Nat) (t : Int32) : Int32 := (-1 : Int32)
theorem ill_not_some (hX : isX σ x) (hT : isT σ (x + 1) T) (hw : wT T) {u v : Int32} {i j : Nat} (hg : gd T u v i j) {t : Int32} (ht : t < 0 ∨ nI (tS T i).2.1 ≤ t) : RetV Γ m_SD_ill [(.ref x), .int u, .int v, (.int t)] σ (.int (K_ill_not T i j t)) := by
  unfold isX at hX
  obtain ⟨t0, t1, ⟨fs, t2, t3⟩, ⟨fp, t4, t5⟩, t6, t7⟩ := id hT
  obtain ⟨rfl, hi, rfl, hj, hgo⟩ := hg
  have hw1 := hw.2.1
  have hw2 := hw.2.2.1
  have hwS := hw.2.2.2.1 i hi
  have hwP := hw.2.2.2.2 j hj
  have hn16 := hwS.1
  have hn5 := hwS.2.1
  have h6 := hwP.1
  have hSi := t6 i (by omega)
  have hPj := t7 j (by omega)
  have hokL : ∀ k, k < (tP T j).1 → okL (tS T i) ((tP T j).2 k) := fun k hk => goT_okL hwS (hgo k hk).1
  obtain ⟨h0, h1, h2, h3, h4, h5, h6', h7, h8, h9, h10⟩ := id hSi
  obtain ⟨p0, ⟨pf, p1, p2⟩, p3⟩ := id hPj
  unfold RetV
  generalize hQ : (fun (r : Option Value) (σ' : ex_S) => r = some ((.int (K_ill_not T i j t)) : Value) ∧ σ' = σ) = Q
  refine Ret.start pm_22 rfl ?_
  refine Ev.aload_n rfl rfl ?_
  refine Ev.iload_n rfl rfl ?_
  refine Ev.iload_n rfl rfl ?_
  refine Ev.cV2 rfl rfl hX rfl rfl (by decide) ⟨(Nat.le_refl _), (Nat.le_refl _)⟩ (going_some hX hT hw ⟨rfl, hi, rfl, hj, hgo⟩) ?_
  refine Ev.astore rfl rfl rfl ?_
  refine Ev.aload_n rfl rfl ?_
  refine Ev.getf rfl rfl hX rfl ?_
  refine Ev.iload_n rfl rfl ?_
  refine Ev.cV1 rfl rfl t0 rfl rfl (by decide) ⟨(Nat.le_refl _), (Nat.le_refl _)⟩ (schoolAt_some hT hw1 hi) ?_
  refine Ev.astore rfl rfl rfl ?_
  refine Ev.aload rfl rfl ?_
  refine Ev.ifnull rfl ?_
  refine Ev.aload rfl rfl ?_
  refine Ev.ifnull rfl ?_
  refine Ev.aload rfl rfl ?_
  refine Ev.iload_n rfl rfl ?_
  refine Ev.cV1 rfl rfl h0 rfl rfl (by decide) ⟨(Nat.le_refl _), (Nat.le_refl _)⟩ (hasT_n hSi ht) ?_
  refine Ev.zne (tgt := 39) rfl (by decide) (fun c34 => absurd (by decide) c34) (fun c34 => ?_)
  refine Ev.iconst (v := (-1)) rfl (by decide) ?_
  refine Ev.iret (ty := .int) rfl rfl rfl (Nat.le_refl _) (Nat.le_refl _) ?_
  rw [← hQ]
  refine ⟨congrArg (fun v => some (Value.int v)) (Eq.symm ?_), rfl⟩
  rfl
def K_m_ill_not (T : Tol) (i j : Nat) (t : Int32) : Int32 := (-1 : Int32)
theorem m_ill_not_some (hM : isM σ y g A) (hT : mT A 0 T) (hw : wT T) {u v : Int32} {i j : Nat} (hg : gd T u v i j) {t : Int32} (ht : t < 0 ∨ nI (tS T i).2.1 ≤ t) : RetV Γ m_M_ill [(.ref y), .int u, .int v, (.int t)] σ (.int (K_m_ill_not T i j t)) := by
  obtain ⟨m0, m1⟩ := id hM
  have hgd := hg
  obtain ⟨rfl, hi, rfl, hj, hgo⟩ := hg
  have hi3 : i < 3 := by have := hw.2.1; omega
  have hj3 : j < 3 := by have := hw.2.2.1; omega
  have hwS := hw.2.2.2.1 i hi
  have hwP := hw.2.2.2.2 j hj
  have hn16 := hwS.1
  have hn5 := hwS.2.1
  have h6 := hwP.1
  have hS := hT.s hi
  have hP := hT.p hj
  have hs : 610 + 120 * i + 120 ≤ 4500 := by omega
  unfold RetV
  generalize hQ : (fun (r : Option Value) (σ' : ex_S) => r = some ((.int (K_m_ill_not T i j t)) : Value) ∧ σ' = σ) = Q
  refine Ret.start pm_242 rfl ?_
  refine Ev.aload_n rfl rfl ?_
  refine Ev.iload_n rfl rfl ?_
  refine Ev.iload_n rfl rfl ?_
  refine Ev.cV2 rfl rfl m0 rfl rfl (by decide) ⟨(Nat.le_refl _), (Nat.le_refl _)⟩ (m_goes_yes hM hT hw hgd) ?_
  refine Ev.zeq (tgt := 31) rfl (by decide) (fun c6 => absurd c6 (by decide)) (fun c6 => ?_)
  refine Ev.iload_n rfl rfl ?_
  refine Ev.iconst (v := 0) rfl (by decide) ?_
  refine Ev.aload_n rfl rfl ?_
  refine Ev.getf rfl rfl m0 rfl ?_
  refine Ev.iconst (v := 0) rfl (by decide) ?_
  refine Ev.iload_n rfl rfl ?_
  refine Ev.cS2 rfl rfl rfl (by decide) ⟨(Nat.le_refl _), (Nat.le_refl _)⟩ (m_pl0_ok i) ?_
  refine Ev.iconst (v := 1) rfl (by decide) ?_
  refine Ev.iadd rfl ?_
  refine Ev.ialdN (k := 610 + 120 * i + 1) rfl m1 (nq_to (a := 610 + 120 * i + 1) (nq_add (a := 610 + 120 * i) (b := 1) rfl (rfl : (1 : Int32) = nI 1)) (by omega)) ⟨(by omega), by decide⟩ ?_
  rw [hS.2.1]
  refine Ev.iconst (v := 1) rfl (by decide) ?_
  refine Ev.isub rfl ?_
  refine Ev.cS3 rfl rfl rfl (by decide) ⟨(Nat.le_refl _), (Nat.le_refl _)⟩ (m_in_n (K_in_no (by omega) ht)) ?_
  refine Ev.zne (tgt := 33) rfl (by decide) (fun c28 => absurd (by decide) c28) (fun c28 => ?_)
  refine Ev.iconst (v := (-1)) rfl (by decide) ?_
  refine Ev.iret (ty := .int) rfl rfl rfl (Nat.le_refl _) (Nat.le_refl _) ?_
  rw [← hQ]
  refine ⟨congrArg (fun v => some (Value.int v)) (Eq.symm ?_), rfl⟩
  rfl
def K_seats_b8 (T : Tol) (i j : Nat) (w : Int32) : Int32 := (-2 : Int32)
theorem seats_b8_some (hX : isX σ x) (hT : isT σ (x + 1) T) (hw : wT T) {u v : Int32} {i j : Nat} (hg : gd T u v i j) {w : Int32} (hv8 : (8 : Int32) < nI (tS T i).1) : RetV Γ m_SD_seats [(.ref x), .int u, .int v, (.int w)] σ (.int (K_seats_b8 T i j w)) := by
  unfold isX at hX
  obtain ⟨t0, t1, ⟨fs, t2, t3⟩, ⟨fp, t4, t5⟩, t6, t7⟩ := id hT
  obtain ⟨rfl, hi, rfl, hj, hgo⟩ := hg
  have hw1 := hw.2.1
  have hw2 := hw.2.2.1
  have hwS := hw.2.2.2.1 i hi
  have hwP := hw.2.2.2.2 j hj
  have hn16 := hwS.1
  have hn5 := hwS.2.1
  have h6 := hwP.1
  have hSi := t6 i (by omega)
  have hPj := t7 j (by omega)
  have hokL : ∀ k, k < (tP T j).1 → okL (tS T i) ((tP T j).2 k) := fun k hk => goT_okL hwS (hgo k hk).1
  obtain ⟨h0, h1, h2, h3, h4, h5, h6', h7, h8, h9, h10⟩ := id hSi
  obtain ⟨p0, ⟨pf, p1, p2⟩, p3⟩ := id hPj
  unfold RetV
  generalize hQ : (fun (r : Option Value) (σ' : ex_S) => r = some ((.int (K_seats_b8 T i j w)) : Value) ∧ σ' = σ) = Q
  refine Ret.start pm_17 rfl ?_
  refine Ev.aload_n rfl rfl ?_
  refine Ev.iload_n rfl rfl ?_
  refine Ev.iload_n rfl rfl ?_
  refine Ev.cV2 rfl rfl hX rfl rfl (by decide) ⟨(Nat.le_refl _), (Nat.le_refl _)⟩ (going_some hX hT hw ⟨rfl, hi, rfl, hj, hgo⟩) ?_
  refine Ev.astore rfl rfl rfl ?_
  refine Ev.aload_n rfl rfl ?_
  refine Ev.getf rfl rfl hX rfl ?_
  refine Ev.iload_n rfl rfl ?_
  refine Ev.cV1 rfl rfl t0 rfl rfl (by decide) ⟨(Nat.le_refl _), (Nat.le_refl _)⟩ (schoolAt_some hT hw1 hi) ?_
  refine Ev.astore rfl rfl rfl ?_
  refine Ev.aload rfl rfl ?_
  refine Ev.ifnull rfl ?_
  refine Ev.aload rfl rfl ?_
  refine Ev.ifnull rfl ?_
  refine Ev.aload rfl rfl ?_
  refine Ev.getf rfl rfl h0 rfl ?_
  refine Ev.bipush (v := 8) rfl (by decide) ?_
  refine Ev.jgt (tgt := 47) rfl (by decide) (fun c35 => ?_) (fun c35 => absurd hv8 c35)
  refine Ev.bipush (v := (-2)) rfl (by decide) ?_
  refine Ev.iret (ty := .int) rfl rfl rfl (Nat.le_refl _) (Nat.le_refl _) ?_
  rw [← hQ]
  refine ⟨congrArg (fun v => some (Value.int v)) (Eq.symm ?_), rfl⟩
  rfl
def K_seats_b3 (T : Tol) (i j : Nat) (w : Int32) : Int32 := (-2 : Int32)
theorem seats_b3_some (hX : isX σ x) (hT : isT σ (x + 1) T) (hw : wT T) {u v : Int32} {i j : Nat} (hg : gd T u v i j) {w : Int32} (hv8 : ¬ (8 : Int32) < nI (tS T i).1) (hv3 : (3 : Int32) < nI (tP T j).1) : RetV Γ m_SD_seats [(.ref x), .int u, .int v, (.int w)] σ (.int (K_seats_b3 T i j w)) := by
  unfold isX at hX
  obtain ⟨t0, t1, ⟨fs, t2, t3⟩, ⟨fp, t4, t5⟩, t6, t7⟩ := id hT
  obtain ⟨rfl, hi, rfl, hj, hgo⟩ := hg
  have hw1 := hw.2.1
  have hw2 := hw.2.2.1
  have hwS := hw.2.2.2.1 i hi
  have hwP := hw.2.2.2.2 j hj
  have hn16 := hwS.1
  have hn5 := hwS.2.1
  have h6 := hwP.1
  have hSi := t6 i (by omega)
  have hPj := t7 j (by omega)
  have hokL : ∀ k, k < (tP T j).1 → okL (tS T i) ((tP T j).2 k) := fun k hk => goT_okL hwS (hgo k hk).1
  obtain ⟨h0, h1, h2, h3, h4, h5, h6', h7, h8, h9, h10⟩ := id hSi
  obtain ⟨p0, ⟨pf, p1, p2⟩, p3⟩ := id hPj
  unfold RetV
  generalize hQ : (fun (r : Option Value) (σ' : ex_S) => r = some ((.int (K_seats_b3 T i j w)) : Value) ∧ σ' = σ) = Q
  refine Ret.start pm_17 rfl ?_
  refine Ev.aload_n rfl rfl ?_
  refine Ev.iload_n rfl rfl ?_
  refine Ev.iload_n rfl rfl ?_
  refine Ev.cV2 rfl rfl hX rfl rfl (by decide) ⟨(Nat.le_refl _), (Nat.le_refl _)⟩ (going_some hX hT hw ⟨rfl, hi, rfl, hj, hgo⟩) ?_
  refine Ev.astore rfl rfl rfl ?_
  refine Ev.aload_n rfl rfl ?_
  refine Ev.getf rfl rfl hX rfl ?_
  refine Ev.iload_n rfl rfl ?_
  refine Ev.cV1 rfl rfl t0 rfl rfl (by decide) ⟨(Nat.le_refl _), (Nat.le_refl _)⟩ (schoolAt_some hT hw1 hi) ?_
  refine Ev.astore rfl rfl rfl ?_
  refine Ev.aload rfl rfl ?_
  refine Ev.ifnull rfl ?_
  refine Ev.aload rfl rfl ?_
  refine Ev.ifnull rfl ?_
  refine Ev.aload rfl rfl ?_
  refine Ev.getf rfl rfl h0 rfl ?_
  refine Ev.bipush (v := 8) rfl (by decide) ?_
  refine Ev.jgt (tgt := 47) rfl (by decide) (fun c35 => absurd c35 hv8) (fun c35 => ?_)
  refine Ev.aload rfl rfl ?_
  refine Ev.getf rfl rfl p0 rfl ?_
  refine Ev.iconst (v := 3) rfl (by decide) ?_
  refine Ev.jle (tgt := 50) rfl (by decide) (fun c44 => absurd hv3 c44) (fun c44 => ?_)
  refine Ev.bipush (v := (-2)) rfl (by decide) ?_
  refine Ev.iret (ty := .int) rfl rfl rfl (Nat.le_refl _) (Nat.le_refl _) ?_
  rw [← hQ]
  refine ⟨congrArg (fun v => some (Value.int v)) (Eq.symm ?_), rfl⟩
  rfl
def K_seats_lo (T : Tol) (i j : Nat) (w : Int32) : Int32 := (-2 : Int32)
theorem seats_lo_some (hX : isX σ x) (hT : isT σ (x + 1) T) (hw : wT T) {u v : Int32} {i j : Nat} (hg : gd T u v i j) {w : Int32} (hv8 : ¬ (8 : Int32) < nI (tS T i).1) (hv3 : ¬ (3 : Int32) < nI (tP T j).1) (hv0 : ¬ w = 0) (hb : w < 10) : RetV Γ m_SD_seats [(.ref x), .int u, .int v, (.int w)] σ (.int (K_seats_lo T i j w)) := by
  unfold isX at hX
  obtain ⟨t0, t1, ⟨fs, t2, t3⟩, ⟨fp, t4, t5⟩, t6, t7⟩ := id hT
  obtain ⟨rfl, hi, rfl, hj, hgo⟩ := hg
  have hw1 := hw.2.1
  have hw2 := hw.2.2.1
  have hwS := hw.2.2.2.1 i hi
  have hwP := hw.2.2.2.2 j hj
  have hn16 := hwS.1
  have hn5 := hwS.2.1
  have h6 := hwP.1
  have hSi := t6 i (by omega)
  have hPj := t7 j (by omega)
  have hokL : ∀ k, k < (tP T j).1 → okL (tS T i) ((tP T j).2 k) := fun k hk => goT_okL hwS (hgo k hk).1
  obtain ⟨h0, h1, h2, h3, h4, h5, h6', h7, h8, h9, h10⟩ := id hSi
  obtain ⟨p0, ⟨pf, p1, p2⟩, p3⟩ := id hPj
  unfold RetV
  generalize hQ : (fun (r : Option Value) (σ' : ex_S) => r = some ((.int (K_seats_lo T i j w)) : Value) ∧ σ' = σ) = Q
  refine Ret.start pm_17 rfl ?_
  refine Ev.aload_n rfl rfl ?_
  refine Ev.iload_n rfl rfl ?_
  refine Ev.iload_n rfl rfl ?_
  refine Ev.cV2 rfl rfl hX rfl rfl (by decide) ⟨(Nat.le_refl _), (Nat.le_refl _)⟩ (going_some hX hT hw ⟨rfl, hi, rfl, hj, hgo⟩) ?_
  refine Ev.astore rfl rfl rfl ?_
  refine Ev.aload_n rfl rfl ?_
  refine Ev.getf rfl rfl hX rfl ?_
  refine Ev.iload_n rfl rfl ?_
  refine Ev.cV1 rfl rfl t0 rfl rfl (by decide) ⟨(Nat.le_refl _), (Nat.le_refl _)⟩ (schoolAt_some hT hw1 hi) ?_
  refine Ev.astore rfl rfl rfl ?_
  refine Ev.aload rfl rfl ?_
  refine Ev.ifnull rfl ?_
  refine Ev.aload rfl rfl ?_
  refine Ev.ifnull rfl ?_
  refine Ev.aload rfl rfl ?_
  refine Ev.getf rfl rfl h0 rfl ?_
  refine Ev.bipush (v := 8) rfl (by decide) ?_
  refine Ev.jgt (tgt := 47) rfl (by decide) (fun c35 => absurd c35 hv8) (fun c35 => ?_)
  refine Ev.aload rfl rfl ?_
  refine Ev.getf rfl rfl p0 rfl ?_
  refine Ev.iconst (v := 3) rfl (by decide) ?_
  refine Ev.jle (tgt := 50) rfl (by decide) (fun c44 => ?_) (fun c44 => absurd c44 hv3)
  refine Ev.iload_n rfl rfl ?_
  refine Ev.zeq (tgt := 75) rfl (by decide) (fun c51 => absurd c51 hv0) (fun c51 => ?_)
  refine Ev.iload_n rfl rfl ?_
  refine Ev.bipush (v := 10) rfl (by decide) ?_
  refine Ev.jlt (tgt := 72) rfl (by decide) (fun c57 => ?_) (fun c57 => absurd hb c57)
  refine Ev.bipush (v := (-2)) rfl (by decide) ?_
  refine Ev.iret (ty := .int) rfl rfl rfl (Nat.le_refl _) (Nat.le_refl _) ?_
  rw [← hQ]
  refine ⟨congrArg (fun v => some (Value.int v)) (Eq.symm ?_), rfl⟩
  rfl
def K_seats_hi (T : Tol) (i j : Nat) (w : Int32) : Int32 := (-2 : Int32)
theorem seats_hi_some (hX : isX σ x) (hT : isT σ (x + 1) T) (hw : wT T) {u v : Int32} {i j : Nat} (hg : gd T u v i j) {w : Int32} (hv8 : ¬ (8 : Int32) < nI (tS T i).1) (hv3 : ¬ (3 : Int32) < nI (tP T j).1) (hv0 : ¬ w = 0) (hc : ¬ w < 10) (hb : ¬ w < (10 : Int32) + nI (tS T i).1) : RetV Γ m_SD_seats [(.ref x), .int u, .int v, (.int w)] σ (.int (K_seats_hi T i j w)) := by
  unfold isX at hX
  obtain ⟨t0, t1, ⟨fs, t2, t3⟩, ⟨fp, t4, t5⟩, t6, t7⟩ := id hT
  obtain ⟨rfl, hi, rfl, hj, hgo⟩ := hg
  have hw1 := hw.2.1
  have hw2 := hw.2.2.1
  have hwS := hw.2.2.2.1 i hi
  have hwP := hw.2.2.2.2 j hj
  have hn16 := hwS.1
  have hn5 := hwS.2.1
  have h6 := hwP.1
  have hSi := t6 i (by omega)
  have hPj := t7 j (by omega)
  have hokL : ∀ k, k < (tP T j).1 → okL (tS T i) ((tP T j).2 k) := fun k hk => goT_okL hwS (hgo k hk).1
  obtain ⟨h0, h1, h2, h3, h4, h5, h6', h7, h8, h9, h10⟩ := id hSi
  obtain ⟨p0, ⟨pf, p1, p2⟩, p3⟩ := id hPj
  unfold RetV
  generalize hQ : (fun (r : Option Value) (σ' : ex_S) => r = some ((.int (K_seats_hi T i j w)) : Value) ∧ σ' = σ) = Q
  refine Ret.start pm_17 rfl ?_
  refine Ev.aload_n rfl rfl ?_
  refine Ev.iload_n rfl rfl ?_
  refine Ev.iload_n rfl rfl ?_
  refine Ev.cV2 rfl rfl hX rfl rfl (by decide) ⟨(Nat.le_refl _), (Nat.le_refl _)⟩ (going_some hX hT hw ⟨rfl, hi, rfl, hj, hgo⟩) ?_
  refine Ev.astore rfl rfl rfl ?_
  refine Ev.aload_n rfl rfl ?_
  refine Ev.getf rfl rfl hX rfl ?_
  refine Ev.iload_n rfl rfl ?_
  refine Ev.cV1 rfl rfl t0 rfl rfl (by decide) ⟨(Nat.le_refl _), (Nat.le_refl _)⟩ (schoolAt_some hT hw1 hi) ?_
  refine Ev.astore rfl rfl rfl ?_
  refine Ev.aload rfl rfl ?_
  refine Ev.ifnull rfl ?_
  refine Ev.aload rfl rfl ?_
  refine Ev.ifnull rfl ?_
  refine Ev.aload rfl rfl ?_
  refine Ev.getf rfl rfl h0 rfl ?_
  refine Ev.bipush (v := 8) rfl (by decide) ?_
  refine Ev.jgt (tgt := 47) rfl (by decide) (fun c35 => absurd c35 hv8) (fun c35 => ?_)
  refine Ev.aload rfl rfl ?_
  refine Ev.getf rfl rfl p0 rfl ?_
  refine Ev.iconst (v := 3) rfl (by decide) ?_
  refine Ev.jle (tgt := 50) rfl (by decide) (fun c44 => ?_) (fun c44 => absurd c44 hv3)
  refine Ev.iload_n rfl rfl ?_
  refine Ev.zeq (tgt := 75) rfl (by decide) (fun c51 => absurd c51 hv0) (fun c51 => ?_)
  refine Ev.iload_n rfl rfl ?_
  refine Ev.bipush (v := 10) rfl (by decide) ?_
  refine Ev.jlt (tgt := 72) rfl (by decide) (fun c57 => absurd c57 hc) (fun c57 => ?_)
  refine Ev.iload_n rfl rfl ?_
  refine Ev.bipush (v := 10) rfl (by decide) ?_
  refine Ev.aload rfl rfl ?_
  refine Ev.getf rfl rfl h0 rfl ?_
  refine Ev.iadd rfl ?_
  refine Ev.jlt (tgt := 75) rfl (by decide) (fun c69 => absurd c69 hb) (fun c69 => ?_)
  refine Ev.bipush (v := (-2)) rfl (by decide) ?_
  refine Ev.iret (ty := .int) rfl rfl rfl (Nat.le_refl _) (Nat.le_refl _) ?_
  rw [← hQ]
  refine ⟨congrArg (fun v => some (Value.int v)) (Eq.symm ?_), rfl⟩
  rfl
def K_m_seats_b8 (T : Tol) (i j : Nat) (w : Int32) : Int32 := (-2 : Int32)
theorem m_seats_b8_some (hM : isM σ y g A) (hT : mT A 0 T) (hw : wT T) {u v : Int32} {i j : Nat} (hg : gd T u v i j) {w : Int32} (hv8 : (8 : Int32) < nI (tS T i).1) : RetV Γ m_M_seats [(.ref y), .int u, .int v, (.int w)] σ (.int (K_m_seats_b8 T i j w)) := by
  obtain ⟨m0, m1⟩ := id hM
  have hgd := hg
  obtain ⟨rfl, hi, rfl, hj, hgo⟩ := hg
  have hi3 : i < 3 := by have := hw.2.1; omega
  have hj3 : j < 3 := by have := hw.2.2.1; omega
  have hwS := hw.2.2.2.1 i hi
  have hwP := hw.2.2.2.2 j hj
  have hn16 := hwS.1
  have hn5 := hwS.2.1
  have h6 := hwP.1
  have hS := hT.s hi
  have hP := hT.p hj
  have hs : 610 + 120 * i + 120 ≤ 4500 := by omega
  unfold RetV
  generalize hQ : (fun (r : Option Value) (σ' : ex_S) => r = some ((.int (K_m_seats_b8 T i j w)) : Value) ∧ σ' = σ) = Q
  refine Ret.start pm_231 rfl ?_
  refine Ev.aload_n rfl rfl ?_
  refine Ev.iload_n rfl rfl ?_
  refine Ev.iload_n rfl rfl ?_
  refine Ev.cV2 rfl rfl m0 rfl rfl (by decide) ⟨(Nat.le_refl _), (Nat.le_refl _)⟩ (m_goes_yes hM hT hw hgd) ?_
  refine Ev.zne (tgt := 12) rfl (by decide) (fun c6 => ?_) (fun c6 => absurd c6 (by decide))
  refine Ev.iconst (v := 0) rfl (by decide) ?_
  refine Ev.iload_n rfl rfl ?_
  refine Ev.cS2 rfl rfl rfl (by decide) ⟨(Nat.le_refl _), (Nat.le_refl _)⟩ (m_pl0_ok i) ?_
  refine Ev.istore rfl rfl rfl ?_
  refine Ev.aload_n rfl rfl ?_
  refine Ev.iload_n rfl rfl ?_
  refine Ev.cV1 rfl rfl m0 rfl rfl (by decide) ⟨(Nat.le_refl _), (Nat.le_refl _)⟩ (m_classes_ok hM hP hj3 h6) ?_
  refine Ev.istore rfl rfl rfl ?_
  refine Ev.aload_n rfl rfl ?_
  refine Ev.getf rfl rfl m0 rfl ?_
  refine Ev.iload rfl rfl ?_
  refine Ev.ialdN (k := 610 + 120 * i) rfl m1 (nq_to (a := 610 + 120 * i) rfl (by omega)) ⟨(by omega), by decide⟩ ?_
  rw [hS.1]
  refine Ev.bipush (v := 8) rfl (by decide) ?_
  refine Ev.jgt (tgt := 67) rfl (by decide) (fun c35 => ?_) (fun c35 => absurd hv8 c35)
  refine Ev.bipush (v := (-2)) rfl (by decide) ?_
  refine Ev.iret (ty := .int) rfl rfl rfl (Nat.le_refl _) (Nat.le_refl _) ?_
  rw [← hQ]
  refine ⟨congrArg (fun v => some (Value.int v)) (Eq.symm ?_), rfl⟩
  rfl
def K_m_seats_b3 (T : Tol) (i j : Nat) (w : Int32) : Int32 := (-2 : Int32)
theorem m_seats_b3_some (hM : isM σ y g A) (hT : mT A 0 T) (hw : wT T) {u v : Int32} {i j : Nat} (hg : gd T u v i j) {w : Int32} (hv8 : ¬ (8 : Int32) < nI (tS T i).1) (hv3 : (3 : Int32) < nI (tP T j).1) : RetV Γ m_M_seats [(.ref y), .int u, .int v, (.int w)] σ (.int (K_m_seats_b3 T i j w)) := by
  obtain ⟨m0, m1⟩ := id hM
  have hgd := hg
  obtain ⟨rfl, hi, rfl, hj, hgo⟩ := hg
  have hi3 : i < 3 := by have := hw.2.1; omega
  have hj3 : j < 3 := by have := hw.2.2.1; omega
  have hwS := hw.2.2.2.1 i hi
  have hwP := hw.2.2.2.2 j hj
  have hn16 := hwS.1
  have hn5 := hwS.2.1
  have h6 := hwP.1
  have hS := hT.s hi
  have hP := hT.p hj
  have hs : 610 + 120 * i + 120 ≤ 4500 := by omega
  unfold RetV
  generalize hQ : (fun (r : Option Value) (σ' : ex_S) => r = some ((.int (K_m_seats_b3 T i j w)) : Value) ∧ σ' = σ) = Q
  refine Ret.start pm_231 rfl ?_
  refine Ev.aload_n rfl rfl ?_
  refine Ev.iload_n rfl rfl ?_
  refine Ev.iload_n rfl rfl ?_
  refine Ev.cV2 rfl rfl m0 rfl rfl (by decide) ⟨(Nat.le_refl _), (Nat.le_refl _)⟩ (m_goes_yes hM hT hw hgd) ?_
  refine Ev.zne (tgt := 12) rfl (by decide) (fun c6 => ?_) (fun c6 => absurd c6 (by decide))
  refine Ev.iconst (v := 0) rfl (by decide) ?_
  refine Ev.iload_n rfl rfl ?_
  refine Ev.cS2 rfl rfl rfl (by decide) ⟨(Nat.le_refl _), (Nat.le_refl _)⟩ (m_pl0_ok i) ?_
  refine Ev.istore rfl rfl rfl ?_
  refine Ev.aload_n rfl rfl ?_
  refine Ev.iload_n rfl rfl ?_
  refine Ev.cV1 rfl rfl m0 rfl rfl (by decide) ⟨(Nat.le_refl _), (Nat.le_refl _)⟩ (m_classes_ok hM hP hj3 h6) ?_
  refine Ev.istore rfl rfl rfl ?_
  refine Ev.aload_n rfl rfl ?_
  refine Ev.getf rfl rfl m0 rfl ?_
  refine Ev.iload rfl rfl ?_
  refine Ev.ialdN (k := 610 + 120 * i) rfl m1 (nq_to (a := 610 + 120 * i) rfl (by omega)) ⟨(by omega), by decide⟩ ?_
  rw [hS.1]
  refine Ev.bipush (v := 8) rfl (by decide) ?_
  refine Ev.jgt (tgt := 67) rfl (by decide) (fun c35 => absurd c35 hv8) (fun c35 => ?_)
  refine Ev.iload rfl rfl ?_
  refine Ev.iconst (v := 3) rfl (by decide) ?_
  refine Ev.jgt (tgt := 67) rfl (by decide) (fun c41 => ?_) (fun c41 => absurd hv3 c41)
  refine Ev.bipush (v := (-2)) rfl (by decide) ?_
  refine Ev.iret (ty := .int) rfl rfl rfl (Nat.le_refl _) (Nat.le_refl _) ?_
  rw [← hQ]
  refine ⟨congrArg (fun v => some (Value.int v)) (Eq.symm ?_), rfl⟩
  rfl
def K_m_seats_bad (T : Tol) (i j : Nat) (w : Int32) : Int32 := (-2 : Int32)
theorem m_seats_bad_some (hM : isM σ y g A) (hT : mT A 0 T) (hw : wT T) {u v : Int32} {i j : Nat} (hg : gd T u v i j) {w : Int32} (hv8 : ¬ (8 : Int32) < nI (tS T i).1) (hv3 : ¬ (3 : Int32) < nI (tP T j).1) (hv0 : ¬ w = 0) (hb : K_in w 10 ((9 : Int32) + nI (tS T i).1) = 0) : RetV Γ m_M_seats [(.ref y), .int u, .int v, (.int w)] σ (.int (K_m_seats_bad T i j w)) := by
  obtain ⟨m0, m1⟩ := id hM
  have hgd := hg
  obtain ⟨rfl, hi, rfl, hj, hgo⟩ := hg
  have hi3 : i < 3 := by have := hw.2.1; omega
  have hj3 : j < 3 := by have := hw.2.2.1; omega
  have hwS := hw.2.2.2.1 i hi
  have hwP := hw.2.2.2.2 j hj
  have hn16 := hwS.1
  have hn5 := hwS.2.1
  have h6 := hwP.1
  have hS := hT.s hi
  have hP := hT.p hj
  have hs : 610 + 120 * i + 120 ≤ 4500 := by omega
  unfold RetV
  generalize hQ : (fun (r : Option Value) (σ' : ex_S) => r = some ((.int (K_m_seats_bad T i j w)) : Value) ∧ σ' = σ) = Q
  refine Ret.start pm_231 rfl ?_
  refine Ev.aload_n rfl rfl ?_
  refine Ev.iload_n rfl rfl ?_
  refine Ev.iload_n rfl rfl ?_
  refine Ev.cV2 rfl rfl m0 rfl rfl (by decide) ⟨(Nat.le_refl _), (Nat.le_refl _)⟩ (m_goes_yes hM hT hw hgd) ?_
  refine Ev.zne (tgt := 12) rfl (by decide) (fun c6 => ?_) (fun c6 => absurd c6 (by decide))
  refine Ev.iconst (v := 0) rfl (by decide) ?_
  refine Ev.iload_n rfl rfl ?_
  refine Ev.cS2 rfl rfl rfl (by decide) ⟨(Nat.le_refl _), (Nat.le_refl _)⟩ (m_pl0_ok i) ?_
  refine Ev.istore rfl rfl rfl ?_
  refine Ev.aload_n rfl rfl ?_
  refine Ev.iload_n rfl rfl ?_
  refine Ev.cV1 rfl rfl m0 rfl rfl (by decide) ⟨(Nat.le_refl _), (Nat.le_refl _)⟩ (m_classes_ok hM hP hj3 h6) ?_
  refine Ev.istore rfl rfl rfl ?_
  refine Ev.aload_n rfl rfl ?_
  refine Ev.getf rfl rfl m0 rfl ?_
  refine Ev.iload rfl rfl ?_
  refine Ev.ialdN (k := 610 + 120 * i) rfl m1 (nq_to (a := 610 + 120 * i) rfl (by omega)) ⟨(by omega), by decide⟩ ?_
  rw [hS.1]
  refine Ev.bipush (v := 8) rfl (by decide) ?_
  refine Ev.jgt (tgt := 67) rfl (by decide) (fun c35 => absurd c35 hv8) (fun c35 => ?_)
  refine Ev.iload rfl rfl ?_
  refine Ev.iconst (v := 3) rfl (by decide) ?_
  refine Ev.jgt (tgt := 67) rfl (by decide) (fun c41 => absurd c41 hv3) (fun c41 => ?_)
  refine Ev.iload_n rfl rfl ?_
  refine Ev.zeq (tgt := 70) rfl (by decide) (fun c45 => absurd c45 hv0) (fun c45 => ?_)
  refine Ev.iload_n rfl rfl ?_
  refine Ev.bipush (v := 10) rfl (by decide) ?_
  refine Ev.bipush (v := 9) rfl (by decide) ?_
  refine Ev.aload_n rfl rfl ?_
  refine Ev.getf rfl rfl m0 rfl ?_
  refine Ev.iload rfl rfl ?_
  refine Ev.ialdN (k := 610 + 120 * i) rfl m1 (nq_to (a := 610 + 120 * i) rfl (by omega)) ⟨(by omega), by decide⟩ ?_
  rw [hS.1]
  refine Ev.iadd rfl ?_
  refine Ev.cS3 rfl rfl rfl (by decide) ⟨(Nat.le_refl _), (Nat.le_refl _)⟩ (m_in_n hb) ?_
  refine Ev.zne (tgt := 70) rfl (by decide) (fun c64 => absurd (by decide) c64) (fun c64 => ?_)
  refine Ev.bipush (v := (-2)) rfl (by decide) ?_
  refine Ev.iret (ty := .int) rfl rfl rfl (Nat.le_refl _) (Nat.le_refl _) ?_
  rw [← hQ]
  refine ⟨congrArg (fun v => some (Value.int v)) (Eq.symm ?_), rfl⟩
  rfl
end
end
