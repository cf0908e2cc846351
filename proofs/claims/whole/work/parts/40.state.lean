/-! The class: all that is told, and which plan goes in which school. -/
noncomputable section
/-- all that is told: the tape's length, fault, place, schools, plans (how many), the tape, the schools, the plans -/
abbrev Tol : Type := Nat × Int32 × Int32 × Nat × Nat × (Nat → Int32) × (Nat → Sch) × (Nat → Pln)
def tN (T : Tol) : Nat := T.1
def tF (T : Tol) : Int32 := T.2.1
def tQ (T : Tol) : Int32 := T.2.2.1
def tSn (T : Tol) : Nat := T.2.2.2.1
def tPn (T : Tol) : Nat := T.2.2.2.2.1
def tB (T : Tol) : Nat → Int32 := T.2.2.2.2.2.1
def tS (T : Tol) : Nat → Sch := T.2.2.2.2.2.2.1
def tP (T : Tol) : Nat → Pln := T.2.2.2.2.2.2.2
def isT (σ : ex_S) (q : Nat) (T : Tol) : Prop :=
  σ.2 q = some (.inr (.inr (1, [.ref (q + 1), .int (nI (tN T)), .int (tF T), .int (tQ T), .ref (q + 2), .int (nI (tSn T)), .ref (q + 3), .int (nI (tPn T))]))) ∧ σ.2 (q + 1) = some (.inl (1, 600, tB T)) ∧
  (∃ f, σ.2 (q + 2) = some (.inr (.inl (3, 3, f))) ∧ ∀ k, k < 3 → f k = some (q + 4 + 19 * k)) ∧ (∃ f, σ.2 (q + 3) = some (.inr (.inl (4, 3, f))) ∧ ∀ k, k < 3 → f k = some (q + 15 + 19 * k)) ∧
  (∀ k, k < 3 → isS σ (q + 4 + 19 * k) (tS T k)) ∧ ∀ k, k < 3 → isP σ (q + 15 + 19 * k) (tP T k)
/-- the class's own object -/
def isX (σ : ex_S) (x : Nat) : Prop := σ.2 x = some (.inr (.inr (0, [.ref (x + 1), .ref (x + 62), .ref (x + 63), .ref (x + 84), .ref (x + 95), .ref (x + 96), .ref (x + 104), .ref (x + 108), .ref (x + 112), .ref (x + 115), .ref (x + 116)])))
def wT (T : Tol) : Prop := tN T ≤ 600 ∧ tSn T ≤ 3 ∧ tPn T ≤ 3 ∧ (∀ k, k < tSn T → wS (tS T k)) ∧ ∀ k, k < tPn T → wP (tP T k)
/-- school a and plan b are there, and the plan goes in the school -/
def gd (T : Tol) (a b : Int32) (i j : Nat) : Prop := a = nI i ∧ i < tSn T ∧ b = nI j ∧ j < tPn T ∧ goP (tS T i) (tP T j)
theorem ix_cases (a : Int32) {n : Nat} (hn : n < 100) : a < 0 ∨ nI n ≤ a ∨ ∃ i, i < n ∧ a = nI i := by
  rcases pk_ix a (n := n) (by omega) with h | h | h
  · exact Or.inl h
  · exact Or.inr (Or.inl h)
  · exact Or.inr (Or.inr h)
theorem and_not0 (x z : Int32) : x &&& (z ^^^ -1) = 0 ↔ x &&& z = x := by
  rw [← Int32.toBitVec_inj, ← Int32.toBitVec_inj]
  rw [Int32.toBitVec_and, Int32.toBitVec_xor, Int32.toBitVec_and]
  have e : (-1 : Int32).toBitVec = BitVec.allOnes 32 := by decide
  have z0 : (0 : Int32).toBitVec = 0#32 := by decide
  rw [e, z0]
  generalize x.toBitVec = X
  generalize z.toBitVec = Z
  constructor
  · intro h
    apply BitVec.eq_of_getLsbD_eq
    intro i hi
    have h1 := congrArg (fun v => BitVec.getLsbD v i) h
    simp only [BitVec.getLsbD_and, BitVec.getLsbD_xor, BitVec.getLsbD_allOnes, BitVec.getLsbD_zero, hi, decide_true] at h1 ⊢
    cases hx : X.getLsbD i <;> cases hz : Z.getLsbD i <;> simp_all
  · intro h
    apply BitVec.eq_of_getLsbD_eq
    intro i hi
    have h1 := congrArg (fun v => BitVec.getLsbD v i) h
    simp only [BitVec.getLsbD_and, BitVec.getLsbD_xor, BitVec.getLsbD_allOnes, BitVec.getLsbD_zero, hi, decide_true] at h1 ⊢
    cases hx : X.getLsbD i <;> cases hz : Z.getLsbD i <;> simp_all
theorem all_nI {S : Sch} (hn : S.1 ≤ 16) : K_all S = nI (2 ^ S.1 - 1) := by
  unfold K_all
  rw [shl1_nI _ (by omega), show (1 : Int32) = nI 1 from rfl, pk_sub (Nat.two_pow_pos _)]
theorem sub_all {S : Sch} (hn : S.1 ≤ 16) {w : Nat} (hw : w < 65536) : nI w &&& (K_all S ^^^ -1) = 0 ↔ w < 2 ^ S.1 := by
  have hp : 2 ^ S.1 ≤ 2 ^ 16 := Nat.pow_le_pow_right (by decide) hn
  have h1 := Nat.two_pow_pos S.1
  rw [and_not0, all_nI hn, pk_andN (by omega) S.1 (by rw [pk_tn (by omega)]), nI_eq (by have := Nat.mod_lt w h1; omega) (by omega)]
  constructor
  · intro h
    rw [← h]
    exact Nat.mod_lt _ h1
  · exact Nat.mod_eq_of_lt
theorem hasT_iff {S : Sch} (hw : S.2.1 ≤ 5) {t : Nat} (ht : t < 5) : K_hasT S (nI t) = 0 ↔ ¬ t < S.2.1 := by
  unfold K_hasT
  rw [if_neg (nI_pos (by omega))]
  by_cases h : t < S.2.1
  · rw [if_neg (nI_ge h (by omega))]
    simp [h]
  · rw [if_pos (nI_le (by omega) (by omega))]
    simp [h]
/-- a class of a plan is one of the school's -/
def okC (S : Sch) (C : Les) : Prop := goT S C ∧ ∃ w, w < 2 ^ S.1 ∧ C 5 = nI w
theorem okC_iff {S : Sch} (hw : wS S) {C : Les} (hl : wL C) : okC S C ↔ ¬ K_hasT S (C 1) = 0 ∧ C 5 &&& (K_all S ^^^ -1) = 0 := by
  obtain ⟨t, et, -, ht, -⟩ := hl.2.1.nat (by decide)
  obtain ⟨w, ew, -, hw5, -⟩ := hl.2.2.2.2.2.nat (by decide)
  have h5 : t < 5 := by omega
  have h16 : w < 65536 := by omega
  rw [et, ew, hasT_iff hw.2.1 h5, sub_all hw.1 h16]
  have hp : 2 ^ S.1 ≤ 2 ^ 16 := Nat.pow_le_pow_right (by decide) hw.1
  have ht5 := hw.2.1
  constructor
  · rintro ⟨⟨t', h1, e1⟩, w', h2, e2⟩
    rw [et, nI_eq (by omega) (by omega)] at e1
    rw [ew, nI_eq (by omega) (by omega)] at e2
    subst e1; subst e2
    exact ⟨by simp [h1], h2⟩
  · rintro ⟨h1, h2⟩
    exact ⟨⟨t, by simpa using h1, et⟩, w, h2, ew⟩
theorem goT_okL {S : Sch} (hw : wS S) {C : Les} (h : goT S C) : okL S C := by
  obtain ⟨t, ht, e⟩ := h
  intro _
  have h5 := hw.2.1
  rw [e]
  unfold K_hasT
  rw [if_neg (nI_pos (by omega)), if_neg (nI_ge ht (by omega))]
section
variable {Γ : ex_G} {σ : ex_S} {x q a p : Nat} {S : Sch} {T : Tol} {P : Pln}
theorem schoolAt_some (hT : isT σ q T) (hn : tSn T ≤ 3) {i : Nat} (hi : i < tSn T) : RetV Γ m_State_schoolAt [.ref q, .int (nI i)] σ (.ref (q + 4 + 19 * i)) := by
  obtain ⟨t0, t1, ⟨fs, t2, t3⟩, ⟨fp, t4, t5⟩, t6, t7⟩ := id hT
  unfold RetV
  generalize hQ : (fun (r : Option Value) (σ' : ex_S) => r = some ((.ref (q + 4 + 19 * i)) : Value) ∧ σ' = σ) = Q
  refine Ret.start pm_66 rfl ?_
  refine Ev.iload_n rfl rfl ?_
  refine Ev.if_lt (tgt := 21) rfl (by decide) (fun c1 => absurd c1 (nI_pos (by omega))) (fun c1 => ?_)
  refine Ev.iload_n rfl rfl ?_
  refine Ev.aload_n rfl rfl ?_
  refine Ev.getf rfl rfl (by assumption) rfl ?_
  refine Ev.icmp_ge (tgt := 21) rfl (by decide) (fun c9 => absurd c9 (nI_ge hi (by omega))) (fun c9 => ?_)
  refine Ev.aload_n rfl rfl ?_
  refine Ev.getf rfl rfl (by assumption) rfl ?_
  refine Ev.iload_n rfl rfl ?_
  refine Ev.aaldN (k := i) rfl (by assumption) rfl rfl ⟨(by omega), by decide⟩ (t3 i (by omega)) ?_
  refine Ev.goto (tgt := 22) rfl (by decide) ?_
  refine Ev.aret rfl rfl (Or.inl ⟨_, rfl⟩) (Or.inr ⟨_, rfl⟩) (Nat.le_refl _) (Nat.le_refl _) ?_
  rw [← hQ]
  exact ⟨rfl, rfl⟩
theorem schoolAt_none (hT : isT σ q T) {i : Int32} (hi : i < 0 ∨ nI (tSn T) ≤ i) : RetV Γ m_State_schoolAt [.ref q, .int i] σ .null := by
  obtain ⟨t0, t1, ⟨fs, t2, t3⟩, ⟨fp, t4, t5⟩, t6, t7⟩ := id hT
  unfold RetV
  generalize hQ : (fun (r : Option Value) (σ' : ex_S) => r = some (.null : Value) ∧ σ' = σ) = Q
  refine Ret.start pm_66 rfl ?_
  refine Ev.iload_n rfl rfl ?_
  refine Ev.if_lt (tgt := 21) rfl (by decide) (fun c1 => ?_) (fun c1 => ?_)
  · skip
    refine Ev.null rfl ?_
    refine Ev.aret rfl rfl (Or.inl ⟨_, rfl⟩) (Or.inl rfl) (Nat.le_refl _) (Nat.le_refl _) ?_
    rw [← hQ]
    exact ⟨rfl, rfl⟩
  · skip
    refine Ev.iload_n rfl rfl ?_
    refine Ev.aload_n rfl rfl ?_
    refine Ev.getf rfl rfl (by assumption) rfl ?_
    refine Ev.icmp_ge (tgt := 21) rfl (by decide) (fun c9 => ?_) (fun c9 => absurd hi (by rintro (h | h); exact c1 h; exact c9 h))
    refine Ev.null rfl ?_
    refine Ev.aret rfl rfl (Or.inl ⟨_, rfl⟩) (Or.inl rfl) (Nat.le_refl _) (Nat.le_refl _) ?_
    rw [← hQ]
    exact ⟨rfl, rfl⟩
theorem planAt_some (hT : isT σ q T) (hn : tPn T ≤ 3) {i : Nat} (hi : i < tPn T) : RetV Γ m_State_planAt [.ref q, .int (nI i)] σ (.ref (q + 15 + 19 * i)) := by
  obtain ⟨t0, t1, ⟨fs, t2, t3⟩, ⟨fp, t4, t5⟩, t6, t7⟩ := id hT
  unfold RetV
  generalize hQ : (fun (r : Option Value) (σ' : ex_S) => r = some ((.ref (q + 15 + 19 * i)) : Value) ∧ σ' = σ) = Q
  refine Ret.start pm_67 rfl ?_
  refine Ev.iload_n rfl rfl ?_
  refine Ev.if_lt (tgt := 21) rfl (by decide) (fun c1 => absurd c1 (nI_pos (by omega))) (fun c1 => ?_)
  refine Ev.iload_n rfl rfl ?_
  refine Ev.aload_n rfl rfl ?_
  refine Ev.getf rfl rfl (by assumption) rfl ?_
  refine Ev.icmp_ge (tgt := 21) rfl (by decide) (fun c9 => absurd c9 (nI_ge hi (by omega))) (fun c9 => ?_)
  refine Ev.aload_n rfl rfl ?_
  refine Ev.getf rfl rfl (by assumption) rfl ?_
  refine Ev.iload_n rfl rfl ?_
  refine Ev.aaldN (k := i) rfl (by assumption) rfl rfl ⟨(by omega), by decide⟩ (t5 i (by omega)) ?_
  refine Ev.goto (tgt := 22) rfl (by decide) ?_
  refine Ev.aret rfl rfl (Or.inl ⟨_, rfl⟩) (Or.inr ⟨_, rfl⟩) (Nat.le_refl _) (Nat.le_refl _) ?_
  rw [← hQ]
  exact ⟨rfl, rfl⟩
theorem planAt_none (hT : isT σ q T) {i : Int32} (hi : i < 0 ∨ nI (tPn T) ≤ i) : RetV Γ m_State_planAt [.ref q, .int i] σ .null := by
  obtain ⟨t0, t1, ⟨fs, t2, t3⟩, ⟨fp, t4, t5⟩, t6, t7⟩ := id hT
  unfold RetV
  generalize hQ : (fun (r : Option Value) (σ' : ex_S) => r = some (.null : Value) ∧ σ' = σ) = Q
  refine Ret.start pm_67 rfl ?_
  refine Ev.iload_n rfl rfl ?_
  refine Ev.if_lt (tgt := 21) rfl (by decide) (fun c1 => ?_) (fun c1 => ?_)
  · skip
    refine Ev.null rfl ?_
    refine Ev.aret rfl rfl (Or.inl ⟨_, rfl⟩) (Or.inl rfl) (Nat.le_refl _) (Nat.le_refl _) ?_
    rw [← hQ]
    exact ⟨rfl, rfl⟩
  · skip
    refine Ev.iload_n rfl rfl ?_
    refine Ev.aload_n rfl rfl ?_
    refine Ev.getf rfl rfl (by assumption) rfl ?_
    refine Ev.icmp_ge (tgt := 21) rfl (by decide) (fun c9 => ?_) (fun c9 => absurd hi (by rintro (h | h); exact c1 h; exact c9 h))
    refine Ev.null rfl ?_
    refine Ev.aret rfl rfl (Or.inl ⟨_, rfl⟩) (Or.inl rfl) (Nat.le_refl _) (Nat.le_refl _) ?_
    rw [← hQ]
    exact ⟨rfl, rfl⟩
theorem lessonOf_some (hP : isP σ p P) (hn : P.1 ≤ 6) {k : Nat} (hk : k < P.1) : RetV Γ m_SD_lessonOf [.ref p, .int (nI k)] σ (.ref (p + 2 + k)) := by
  obtain ⟨p0, ⟨pf, p1, p2⟩, p3⟩ := id hP
  unfold RetV
  generalize hQ : (fun (r : Option Value) (σ' : ex_S) => r = some ((.ref (p + 2 + k)) : Value) ∧ σ' = σ) = Q
  refine Ret.start pm_49 rfl ?_
  refine Ev.aload_n rfl rfl ?_
  refine Ev.ifnull rfl ?_
  refine Ev.iload_n rfl rfl ?_
  refine Ev.if_lt (tgt := 25) rfl (by decide) (fun c5 => absurd c5 (nI_pos (by omega))) (fun c5 => ?_)
  refine Ev.iload_n rfl rfl ?_
  refine Ev.aload_n rfl rfl ?_
  refine Ev.getf rfl rfl (by assumption) rfl ?_
  refine Ev.icmp_ge (tgt := 25) rfl (by decide) (fun c13 => absurd c13 (nI_ge hk (by omega))) (fun c13 => ?_)
  refine Ev.aload_n rfl rfl ?_
  refine Ev.getf rfl rfl (by assumption) rfl ?_
  refine Ev.iload_n rfl rfl ?_
  refine Ev.aaldN (k := k) rfl (by assumption) rfl rfl ⟨(by omega), by decide⟩ (p2 k (by omega)) ?_
  refine Ev.goto (tgt := 26) rfl (by decide) ?_
  refine Ev.aret rfl rfl (Or.inl ⟨_, rfl⟩) (Or.inr ⟨_, rfl⟩) (Nat.le_refl _) (Nat.le_refl _) ?_
  rw [← hQ]
  exact ⟨rfl, rfl⟩
theorem lessonOf_none (hP : isP σ p P) {k : Int32} (hk : k < 0 ∨ nI P.1 ≤ k) : RetV Γ m_SD_lessonOf [.ref p, .int k] σ .null := by
  obtain ⟨p0, ⟨pf, p1, p2⟩, p3⟩ := id hP
  unfold RetV
  generalize hQ : (fun (r : Option Value) (σ' : ex_S) => r = some (.null : Value) ∧ σ' = σ) = Q
  refine Ret.start pm_49 rfl ?_
  refine Ev.aload_n rfl rfl ?_
  refine Ev.ifnull rfl ?_
  refine Ev.iload_n rfl rfl ?_
  refine Ev.if_lt (tgt := 25) rfl (by decide) (fun c5 => ?_) (fun c5 => ?_)
  · skip
    refine Ev.null rfl ?_
    refine Ev.aret rfl rfl (Or.inl ⟨_, rfl⟩) (Or.inl rfl) (Nat.le_refl _) (Nat.le_refl _) ?_
    rw [← hQ]
    exact ⟨rfl, rfl⟩
  · skip
    refine Ev.iload_n rfl rfl ?_
    refine Ev.aload_n rfl rfl ?_
    refine Ev.getf rfl rfl (by assumption) rfl ?_
    refine Ev.icmp_ge (tgt := 25) rfl (by decide) (fun c13 => ?_) (fun c13 => absurd hk (by rintro (h | h); exact c5 h; exact c13 h))
    refine Ev.null rfl ?_
    refine Ev.aret rfl rfl (Or.inl ⟨_, rfl⟩) (Or.inl rfl) (Nat.le_refl _) (Nat.le_refl _) ?_
    rw [← hQ]
    exact ⟨rfl, rfl⟩
theorem lessonOf_null (k : Int32) : RetV Γ m_SD_lessonOf [.null, .int k] σ .null := by
  unfold RetV
  generalize hQ : (fun (r : Option Value) (σ' : ex_S) => r = some (.null : Value) ∧ σ' = σ) = Q
  refine Ret.start pm_49 rfl ?_
  refine Ev.aload_nN rfl rfl ?_
  refine Ev.ifnullN (tgt := 25) rfl (by decide) ?_
  refine Ev.null rfl ?_
  refine Ev.aret rfl rfl (Or.inl ⟨_, rfl⟩) (Or.inl rfl) (Nat.le_refl _) (Nat.le_refl _) ?_
  rw [← hQ]
  exact ⟨rfl, rfl⟩
theorem goesIn_yes (hS : isS σ a S) (hP : isP σ p P) (hw : wS S) (hwp : wP P) (hg : goP S P) : RetV Γ m_Plan_goesIn [.ref p, .ref a] σ (.int (1)) := by
  obtain ⟨h0, h1, h2, h3, h4, h5, h6, h7, h8, h9, h10⟩ := id hS
  obtain ⟨p0, ⟨pf, p1, p2⟩, p3⟩ := id hP
  unfold RetV
  generalize hQ : (fun (r : Option Value) (σ' : ex_S) => r = some ((.int (1)) : Value) ∧ σ' = σ) = Q
  refine Ret.start pm_106 rfl ?_
  have h6 := hwp.1
  refine Ev.iconst (v := 0) rfl (by decide) ?_
  refine Ev.istore_n rfl rfl rfl ?_
  skip
  refine Ev.cg (L' := [some (.ref p), some (.ref a), some (.int (nI 0)), none]) ?_ (by first | rfl | simp [nI_0])
  have key : ∀ (k i : Nat) (z : Option Value), i + k = P.1 → Ev Γ 0 0 m_Plan_goesIn 0 0 2 [some (.ref p), some (.ref a), some (.int (nI i)), z] [] σ Q := by
    intro k
    induction k with
    | zero =>
      intro i z hi
      have hi2 : i = P.1 := by omega
      subst hi2
      refine Ev.iload_n rfl rfl ?_
      refine Ev.aload_n rfl rfl ?_
      refine Ev.getf rfl rfl (by assumption) rfl ?_
      refine Ev.icmp_ge (tgt := 50) rfl (by decide) (fun c7 => ?_) (fun c7 => absurd (nI_le (Nat.le_refl _) (by omega)) c7)
      refine Ev.iconst (v := 1) rfl (by decide) ?_
      refine Ev.iret (ty := .boolean) rfl rfl rfl (Nat.le_refl _) (Nat.le_refl _) ?_
      rw [← hQ]
      exact ⟨rfl, rfl⟩
    | succ k ih =>
      intro i z hi
      have hi2 : i < P.1 := by omega
      obtain ⟨g1, g2⟩ := (okC_iff hw (hwp.2 i hi2)).mp (hg i hi2)
      refine Ev.iload_n rfl rfl ?_
      refine Ev.aload_n rfl rfl ?_
      refine Ev.getf rfl rfl (by assumption) rfl ?_
      refine Ev.icmp_ge (tgt := 50) rfl (by decide) (fun c7 => absurd c7 (nI_ge hi2 (by omega))) (fun c7 => ?_)
      refine Ev.aload_n rfl rfl ?_
      refine Ev.getf rfl rfl (by assumption) rfl ?_
      refine Ev.iload_n rfl rfl ?_
      refine Ev.aaldN (k := i) rfl (by assumption) rfl rfl ⟨(by omega), by decide⟩ (p2 i (by omega)) ?_
      refine Ev.astore_n rfl rfl rfl ?_
      refine Ev.aload_n rfl rfl ?_
      refine Ev.aload_n rfl rfl ?_
      refine Ev.getf rfl rfl (p3 i (by omega)) rfl ?_
      refine Ev.cV1 rfl rfl (by assumption) rfl rfl (by decide) ⟨(Nat.le_refl _), (Nat.le_refl _)⟩ (hasT_ok hS _) ?_
      refine Ev.if_eq (tgt := 42) rfl (by decide) (fun c25 => absurd c25 g1) (fun c25 => ?_)
      refine Ev.aload_n rfl rfl ?_
      refine Ev.getf rfl rfl (p3 i (by omega)) rfl ?_
      refine Ev.aload_n rfl rfl ?_
      refine Ev.cV0 rfl rfl (by assumption) rfl rfl (by decide) ⟨(Nat.le_refl _), (Nat.le_refl _)⟩ (all_ok hS) ?_
      refine Ev.iconst (v := (-1)) rfl (by decide) ?_
      refine Ev.ixor rfl ?_
      refine Ev.iand rfl ?_
      refine Ev.if_eq (tgt := 44) rfl (by decide) (fun c39 => ?_) (fun c39 => absurd g2 c39)
      refine Ev.iinc (d := 1) rfl rfl rfl (by decide) rfl ?_
      refine Ev.goto (tgt := 2) rfl (by decide) ?_
      exact (ih (i + 1) _ (by omega)).cg (by first | (simp [nI_1]; done) | (simp [nI_1]; rfl))
  exact key P.1 0 none (by omega)
theorem goesIn_no (hS : isS σ a S) (hP : isP σ p P) (hw : wS S) (hwp : wP P) (hg : ¬ goP S P) : RetV Γ m_Plan_goesIn [.ref p, .ref a] σ (.int (0)) := by
  obtain ⟨h0, h1, h2, h3, h4, h5, h6, h7, h8, h9, h10⟩ := id hS
  obtain ⟨p0, ⟨pf, p1, p2⟩, p3⟩ := id hP
  unfold RetV
  generalize hQ : (fun (r : Option Value) (σ' : ex_S) => r = some ((.int (0)) : Value) ∧ σ' = σ) = Q
  refine Ret.start pm_106 rfl ?_
  have h6 := hwp.1
  obtain ⟨j, hj, hjf⟩ : ∃ j, (j < P.1 ∧ ¬ okC S (P.2 j)) ∧ ∀ i, i < j → ¬ (i < P.1 ∧ ¬ okC S (P.2 i)) := pk_least (fun j => j < P.1 ∧ ¬ okC S (P.2 j)) (by
    by_cases h : ∃ j, j < P.1 ∧ ¬ okC S (P.2 j)
    · exact h
    · exact absurd (fun k hk => by by_cases z : okC S (P.2 k); exact z; exact absurd ⟨k, hk, z⟩ h) hg)
  obtain ⟨hjl, hjn⟩ := hj
  refine Ev.iconst (v := 0) rfl (by decide) ?_
  refine Ev.istore_n rfl rfl rfl ?_
  skip
  refine Ev.cg (L' := [some (.ref p), some (.ref a), some (.int (nI 0)), none]) ?_ (by first | rfl | simp [nI_0])
  have key : ∀ (k i : Nat) (z : Option Value), i + k = j → Ev Γ 0 0 m_Plan_goesIn 0 0 2 [some (.ref p), some (.ref a), some (.int (nI i)), z] [] σ Q := by
    intro k
    induction k with
    | zero =>
      intro i z hi
      have hi2 : i = j := by omega
      subst hi2
      have g := mt (okC_iff hw (hwp.2 i hjl)).mpr hjn
      refine Ev.iload_n rfl rfl ?_
      refine Ev.aload_n rfl rfl ?_
      refine Ev.getf rfl rfl (by assumption) rfl ?_
      refine Ev.icmp_ge (tgt := 50) rfl (by decide) (fun c7 => absurd c7 (nI_ge hjl (by omega))) (fun c7 => ?_)
      refine Ev.aload_n rfl rfl ?_
      refine Ev.getf rfl rfl (by assumption) rfl ?_
      refine Ev.iload_n rfl rfl ?_
      refine Ev.aaldN (k := i) rfl (by assumption) rfl rfl ⟨(by omega), by decide⟩ (p2 i (by omega)) ?_
      refine Ev.astore_n rfl rfl rfl ?_
      refine Ev.aload_n rfl rfl ?_
      refine Ev.aload_n rfl rfl ?_
      refine Ev.getf rfl rfl (p3 i (by omega)) rfl ?_
      refine Ev.cV1 rfl rfl (by assumption) rfl rfl (by decide) ⟨(Nat.le_refl _), (Nat.le_refl _)⟩ (hasT_ok hS _) ?_
      refine Ev.if_eq (tgt := 42) rfl (by decide) (fun c25 => ?_) (fun c25 => ?_)
      · skip
        refine Ev.iconst (v := 0) rfl (by decide) ?_
        refine Ev.iret (ty := .boolean) rfl rfl rfl (Nat.le_refl _) (Nat.le_refl _) ?_
        rw [← hQ]
        exact ⟨rfl, rfl⟩
      · skip
        refine Ev.aload_n rfl rfl ?_
        refine Ev.getf rfl rfl (p3 i (by omega)) rfl ?_
        refine Ev.aload_n rfl rfl ?_
        refine Ev.cV0 rfl rfl (by assumption) rfl rfl (by decide) ⟨(Nat.le_refl _), (Nat.le_refl _)⟩ (all_ok hS) ?_
        refine Ev.iconst (v := (-1)) rfl (by decide) ?_
        refine Ev.ixor rfl ?_
        refine Ev.iand rfl ?_
        refine Ev.if_eq (tgt := 44) rfl (by decide) (fun c39 => absurd ⟨c25, c39⟩ g) (fun c39 => ?_)
        refine Ev.iconst (v := 0) rfl (by decide) ?_
        refine Ev.iret (ty := .boolean) rfl rfl rfl (Nat.le_refl _) (Nat.le_refl _) ?_
        rw [← hQ]
        exact ⟨rfl, rfl⟩
    | succ k ih =>
      intro i z hi
      have hi2 : i < P.1 := by omega
      obtain ⟨g1, g2⟩ := (okC_iff hw (hwp.2 i hi2)).mp (by by_cases z : okC S (P.2 i); exact z; exact absurd ⟨hi2, z⟩ (hjf i (by omega)))
      refine Ev.iload_n rfl rfl ?_
      refine Ev.aload_n rfl rfl ?_
      refine Ev.getf rfl rfl (by assumption) rfl ?_
      refine Ev.icmp_ge (tgt := 50) rfl (by decide) (fun c7 => absurd c7 (nI_ge hi2 (by omega))) (fun c7 => ?_)
      refine Ev.aload_n rfl rfl ?_
      refine Ev.getf rfl rfl (by assumption) rfl ?_
      refine Ev.iload_n rfl rfl ?_
      refine Ev.aaldN (k := i) rfl (by assumption) rfl rfl ⟨(by omega), by decide⟩ (p2 i (by omega)) ?_
      refine Ev.astore_n rfl rfl rfl ?_
      refine Ev.aload_n rfl rfl ?_
      refine Ev.aload_n rfl rfl ?_
      refine Ev.getf rfl rfl (p3 i (by omega)) rfl ?_
      refine Ev.cV1 rfl rfl (by assumption) rfl rfl (by decide) ⟨(Nat.le_refl _), (Nat.le_refl _)⟩ (hasT_ok hS _) ?_
      refine Ev.if_eq (tgt := 42) rfl (by decide) (fun c25 => absurd c25 g1) (fun c25 => ?_)
      refine Ev.aload_n rfl rfl ?_
      refine Ev.getf rfl rfl (p3 i (by omega)) rfl ?_
      refine Ev.aload_n rfl rfl ?_
      refine Ev.cV0 rfl rfl (by assumption) rfl rfl (by decide) ⟨(Nat.le_refl _), (Nat.le_refl _)⟩ (all_ok hS) ?_
      refine Ev.iconst (v := (-1)) rfl (by decide) ?_
      refine Ev.ixor rfl ?_
      refine Ev.iand rfl ?_
      refine Ev.if_eq (tgt := 44) rfl (by decide) (fun c39 => ?_) (fun c39 => absurd g2 c39)
      refine Ev.iinc (d := 1) rfl rfl rfl (by decide) rfl ?_
      refine Ev.goto (tgt := 2) rfl (by decide) ?_
      exact (ih (i + 1) _ (by omega)).cg (by first | (simp [nI_1]; done) | (simp [nI_1]; rfl))
  exact key j 0 none (by omega)
theorem going_some (hX : isX σ x) (hT : isT σ (x + 1) T) (hw : wT T) {u v : Int32} {i j : Nat} (hg : gd T u v i j) : RetV Γ m_SD_going [.ref x, .int u, .int v] σ (.ref (x + 1 + 15 + 19 * j)) := by
  unfold isX at hX
  obtain ⟨t0, t1, ⟨fs, t2, t3⟩, ⟨fp, t4, t5⟩, t6, t7⟩ := id hT
  unfold RetV
  generalize hQ : (fun (r : Option Value) (σ' : ex_S) => r = some ((.ref (x + 1 + 15 + 19 * j)) : Value) ∧ σ' = σ) = Q
  refine Ret.start pm_48 rfl ?_
  obtain ⟨-, w1, w2, w3, w4⟩ := hw
  obtain ⟨rfl, hi, rfl, hj, hgo⟩ := hg
  obtain ⟨q0, -⟩ := id (t7 j (by omega))
  obtain ⟨s0, -⟩ := id (t6 i (by omega))
  refine Ev.aload_n rfl rfl ?_
  refine Ev.getf rfl rfl (by assumption) rfl ?_
  refine Ev.iload_n rfl rfl ?_
  refine Ev.cV1 rfl rfl (by assumption) rfl rfl (by decide) ⟨(Nat.le_refl _), (Nat.le_refl _)⟩ (schoolAt_some hT w1 hi) ?_
  refine Ev.astore_n rfl rfl rfl ?_
  refine Ev.aload_n rfl rfl ?_
  refine Ev.getf rfl rfl (by assumption) rfl ?_
  refine Ev.iload_n rfl rfl ?_
  refine Ev.cV1 rfl rfl (by assumption) rfl rfl (by decide) ⟨(Nat.le_refl _), (Nat.le_refl _)⟩ (planAt_some hT w2 hj) ?_
  refine Ev.astore rfl rfl rfl ?_
  refine Ev.aload_n rfl rfl ?_
  refine Ev.ifnull rfl ?_
  refine Ev.aload rfl rfl ?_
  refine Ev.ifnull rfl ?_
  refine Ev.aload rfl rfl ?_
  refine Ev.aload_n rfl rfl ?_
  refine Ev.cV1 rfl rfl (by assumption) rfl rfl (by decide) ⟨(Nat.le_refl _), (Nat.le_refl _)⟩ (goesIn_yes (t6 i (by omega)) (t7 j (by omega)) (w3 i hi) (w4 j hj) hgo) ?_
  refine Ev.if_eq (tgt := 42) rfl (by decide) (fun c34 => absurd c34 (by decide)) (fun c34 => ?_)
  refine Ev.aload rfl rfl ?_
  refine Ev.goto (tgt := 43) rfl (by decide) ?_
  refine Ev.aret rfl rfl (Or.inl ⟨_, rfl⟩) (Or.inr ⟨_, rfl⟩) (Nat.le_refl _) (Nat.le_refl _) ?_
  rw [← hQ]
  exact ⟨rfl, rfl⟩
theorem going_none (hX : isX σ x) (hT : isT σ (x + 1) T) (hw : wT T) {u v : Int32} (hg : ¬ ∃ i j, gd T u v i j) : RetV Γ m_SD_going [.ref x, .int u, .int v] σ .null := by
  unfold isX at hX
  obtain ⟨t0, t1, ⟨fs, t2, t3⟩, ⟨fp, t4, t5⟩, t6, t7⟩ := id hT
  unfold RetV
  generalize hQ : (fun (r : Option Value) (σ' : ex_S) => r = some (.null : Value) ∧ σ' = σ) = Q
  refine Ret.start pm_48 rfl ?_
  obtain ⟨-, w1, w2, w3, w4⟩ := hw
  rcases ix_cases u (n := tSn T) (by omega) with hu | hu | ⟨i, hi, rfl⟩
  rotate_right
  · obtain ⟨s0, -⟩ := id (t6 i (by omega))
    rcases ix_cases v (n := tPn T) (by omega) with hv | hv | ⟨j, hj, rfl⟩
    rotate_right
    · obtain ⟨q0, -⟩ := id (t7 j (by omega))
      refine Ev.aload_n rfl rfl ?_
      refine Ev.getf rfl rfl (by assumption) rfl ?_
      refine Ev.iload_n rfl rfl ?_
      refine Ev.cV1 rfl rfl (by assumption) rfl rfl (by decide) ⟨(Nat.le_refl _), (Nat.le_refl _)⟩ (schoolAt_some hT w1 hi) ?_
      refine Ev.astore_n rfl rfl rfl ?_
      refine Ev.aload_n rfl rfl ?_
      refine Ev.getf rfl rfl (by assumption) rfl ?_
      refine Ev.iload_n rfl rfl ?_
      refine Ev.cV1 rfl rfl (by assumption) rfl rfl (by decide) ⟨(Nat.le_refl _), (Nat.le_refl _)⟩ (planAt_some hT w2 hj) ?_
      refine Ev.astore rfl rfl rfl ?_
      refine Ev.aload_n rfl rfl ?_
      refine Ev.ifnull rfl ?_
      refine Ev.aload rfl rfl ?_
      refine Ev.ifnull rfl ?_
      refine Ev.aload rfl rfl ?_
      refine Ev.aload_n rfl rfl ?_
      refine Ev.cV1 rfl rfl (by assumption) rfl rfl (by decide) ⟨(Nat.le_refl _), (Nat.le_refl _)⟩ (goesIn_no (t6 i (by omega)) (t7 j (by omega)) (w3 i hi) (w4 j hj) (fun z => hg ⟨i, j, rfl, hi, rfl, hj, z⟩)) ?_
      refine Ev.if_eq (tgt := 42) rfl (by decide) (fun c34 => ?_) (fun c34 => absurd rfl c34)
      refine Ev.null rfl ?_
      refine Ev.aret rfl rfl (Or.inl ⟨_, rfl⟩) (Or.inl rfl) (Nat.le_refl _) (Nat.le_refl _) ?_
      rw [← hQ]
      exact ⟨rfl, rfl⟩
    · skip
      refine Ev.aload_n rfl rfl ?_
      refine Ev.getf rfl rfl (by assumption) rfl ?_
      refine Ev.iload_n rfl rfl ?_
      refine Ev.cV1 rfl rfl (by assumption) rfl rfl (by decide) ⟨(Nat.le_refl _), (Nat.le_refl _)⟩ (schoolAt_some hT w1 hi) ?_
      refine Ev.astore_n rfl rfl rfl ?_
      refine Ev.aload_n rfl rfl ?_
      refine Ev.getf rfl rfl (by assumption) rfl ?_
      refine Ev.iload_n rfl rfl ?_
      refine Ev.cV1 rfl rfl (by assumption) rfl rfl (by decide) ⟨(Nat.le_refl _), (Nat.le_refl _)⟩ (planAt_none hT (Or.inl hv)) ?_
      refine Ev.astoreN rfl rfl rfl ?_
      refine Ev.aload_n rfl rfl ?_
      refine Ev.ifnull rfl ?_
      refine Ev.aloadN rfl rfl ?_
      refine Ev.ifnullN (tgt := 42) rfl (by decide) ?_
      refine Ev.null rfl ?_
      refine Ev.aret rfl rfl (Or.inl ⟨_, rfl⟩) (Or.inl rfl) (Nat.le_refl _) (Nat.le_refl _) ?_
      rw [← hQ]
      exact ⟨rfl, rfl⟩
    · skip
      refine Ev.aload_n rfl rfl ?_
      refine Ev.getf rfl rfl (by assumption) rfl ?_
      refine Ev.iload_n rfl rfl ?_
      refine Ev.cV1 rfl rfl (by assumption) rfl rfl (by decide) ⟨(Nat.le_refl _), (Nat.le_refl _)⟩ (schoolAt_some hT w1 hi) ?_
      refine Ev.astore_n rfl rfl rfl ?_
      refine Ev.aload_n rfl rfl ?_
      refine Ev.getf rfl rfl (by assumption) rfl ?_
      refine Ev.iload_n rfl rfl ?_
      refine Ev.cV1 rfl rfl (by assumption) rfl rfl (by decide) ⟨(Nat.le_refl _), (Nat.le_refl _)⟩ (planAt_none hT (Or.inr hv)) ?_
      refine Ev.astoreN rfl rfl rfl ?_
      refine Ev.aload_n rfl rfl ?_
      refine Ev.ifnull rfl ?_
      refine Ev.aloadN rfl rfl ?_
      refine Ev.ifnullN (tgt := 42) rfl (by decide) ?_
      refine Ev.null rfl ?_
      refine Ev.aret rfl rfl (Or.inl ⟨_, rfl⟩) (Or.inl rfl) (Nat.le_refl _) (Nat.le_refl _) ?_
      rw [← hQ]
      exact ⟨rfl, rfl⟩
  · rcases ix_cases v (n := tPn T) (by omega) with hv | hv | ⟨j, hj, rfl⟩
    · skip
      refine Ev.aload_n rfl rfl ?_
      refine Ev.getf rfl rfl (by assumption) rfl ?_
      refine Ev.iload_n rfl rfl ?_
      refine Ev.cV1 rfl rfl (by assumption) rfl rfl (by decide) ⟨(Nat.le_refl _), (Nat.le_refl _)⟩ (schoolAt_none hT (Or.inl hu)) ?_
      refine Ev.astore_nN rfl rfl rfl ?_
      refine Ev.aload_n rfl rfl ?_
      refine Ev.getf rfl rfl (by assumption) rfl ?_
      refine Ev.iload_n rfl rfl ?_
      refine Ev.cV1 rfl rfl (by assumption) rfl rfl (by decide) ⟨(Nat.le_refl _), (Nat.le_refl _)⟩ (planAt_none hT (Or.inl hv)) ?_
      refine Ev.astoreN rfl rfl rfl ?_
      refine Ev.aload_nN rfl rfl ?_
      refine Ev.ifnullN (tgt := 42) rfl (by decide) ?_
      refine Ev.null rfl ?_
      refine Ev.aret rfl rfl (Or.inl ⟨_, rfl⟩) (Or.inl rfl) (Nat.le_refl _) (Nat.le_refl _) ?_
      rw [← hQ]
      exact ⟨rfl, rfl⟩
    · skip
      refine Ev.aload_n rfl rfl ?_
      refine Ev.getf rfl rfl (by assumption) rfl ?_
      refine Ev.iload_n rfl rfl ?_
      refine Ev.cV1 rfl rfl (by assumption) rfl rfl (by decide) ⟨(Nat.le_refl _), (Nat.le_refl _)⟩ (schoolAt_none hT (Or.inl hu)) ?_
      refine Ev.astore_nN rfl rfl rfl ?_
      refine Ev.aload_n rfl rfl ?_
      refine Ev.getf rfl rfl (by assumption) rfl ?_
      refine Ev.iload_n rfl rfl ?_
      refine Ev.cV1 rfl rfl (by assumption) rfl rfl (by decide) ⟨(Nat.le_refl _), (Nat.le_refl _)⟩ (planAt_none hT (Or.inr hv)) ?_
      refine Ev.astoreN rfl rfl rfl ?_
      refine Ev.aload_nN rfl rfl ?_
      refine Ev.ifnullN (tgt := 42) rfl (by decide) ?_
      refine Ev.null rfl ?_
      refine Ev.aret rfl rfl (Or.inl ⟨_, rfl⟩) (Or.inl rfl) (Nat.le_refl _) (Nat.le_refl _) ?_
      rw [← hQ]
      exact ⟨rfl, rfl⟩
    · skip
      refine Ev.aload_n rfl rfl ?_
      refine Ev.getf rfl rfl (by assumption) rfl ?_
      refine Ev.iload_n rfl rfl ?_
      refine Ev.cV1 rfl rfl (by assumption) rfl rfl (by decide) ⟨(Nat.le_refl _), (Nat.le_refl _)⟩ (schoolAt_none hT (Or.inl hu)) ?_
      refine Ev.astore_nN rfl rfl rfl ?_
      refine Ev.aload_n rfl rfl ?_
      refine Ev.getf rfl rfl (by assumption) rfl ?_
      refine Ev.iload_n rfl rfl ?_
      refine Ev.cV1 rfl rfl (by assumption) rfl rfl (by decide) ⟨(Nat.le_refl _), (Nat.le_refl _)⟩ (planAt_some hT w2 hj) ?_
      refine Ev.astore rfl rfl rfl ?_
      refine Ev.aload_nN rfl rfl ?_
      refine Ev.ifnullN (tgt := 42) rfl (by decide) ?_
      refine Ev.null rfl ?_
      refine Ev.aret rfl rfl (Or.inl ⟨_, rfl⟩) (Or.inl rfl) (Nat.le_refl _) (Nat.le_refl _) ?_
      rw [← hQ]
      exact ⟨rfl, rfl⟩
  · rcases ix_cases v (n := tPn T) (by omega) with hv | hv | ⟨j, hj, rfl⟩
    · skip
      refine Ev.aload_n rfl rfl ?_
      refine Ev.getf rfl rfl (by assumption) rfl ?_
      refine Ev.iload_n rfl rfl ?_
      refine Ev.cV1 rfl rfl (by assumption) rfl rfl (by decide) ⟨(Nat.le_refl _), (Nat.le_refl _)⟩ (schoolAt_none hT (Or.inr hu)) ?_
      refine Ev.astore_nN rfl rfl rfl ?_
      refine Ev.aload_n rfl rfl ?_
      refine Ev.getf rfl rfl (by assumption) rfl ?_
      refine Ev.iload_n rfl rfl ?_
      refine Ev.cV1 rfl rfl (by assumption) rfl rfl (by decide) ⟨(Nat.le_refl _), (Nat.le_refl _)⟩ (planAt_none hT (Or.inl hv)) ?_
      refine Ev.astoreN rfl rfl rfl ?_
      refine Ev.aload_nN rfl rfl ?_
      refine Ev.ifnullN (tgt := 42) rfl (by decide) ?_
      refine Ev.null rfl ?_
      refine Ev.aret rfl rfl (Or.inl ⟨_, rfl⟩) (Or.inl rfl) (Nat.le_refl _) (Nat.le_refl _) ?_
      rw [← hQ]
      exact ⟨rfl, rfl⟩
    · skip
      refine Ev.aload_n rfl rfl ?_
      refine Ev.getf rfl rfl (by assumption) rfl ?_
      refine Ev.iload_n rfl rfl ?_
      refine Ev.cV1 rfl rfl (by assumption) rfl rfl (by decide) ⟨(Nat.le_refl _), (Nat.le_refl _)⟩ (schoolAt_none hT (Or.inr hu)) ?_
      refine Ev.astore_nN rfl rfl rfl ?_
      refine Ev.aload_n rfl rfl ?_
      refine Ev.getf rfl rfl (by assumption) rfl ?_
      refine Ev.iload_n rfl rfl ?_
      refine Ev.cV1 rfl rfl (by assumption) rfl rfl (by decide) ⟨(Nat.le_refl _), (Nat.le_refl _)⟩ (planAt_none hT (Or.inr hv)) ?_
      refine Ev.astoreN rfl rfl rfl ?_
      refine Ev.aload_nN rfl rfl ?_
      refine Ev.ifnullN (tgt := 42) rfl (by decide) ?_
      refine Ev.null rfl ?_
      refine Ev.aret rfl rfl (Or.inl ⟨_, rfl⟩) (Or.inl rfl) (Nat.le_refl _) (Nat.le_refl _) ?_
      rw [← hQ]
      exact ⟨rfl, rfl⟩
    · skip
      refine Ev.aload_n rfl rfl ?_
      refine Ev.getf rfl rfl (by assumption) rfl ?_
      refine Ev.iload_n rfl rfl ?_
      refine Ev.cV1 rfl rfl (by assumption) rfl rfl (by decide) ⟨(Nat.le_refl _), (Nat.le_refl _)⟩ (schoolAt_none hT (Or.inr hu)) ?_
      refine Ev.astore_nN rfl rfl rfl ?_
      refine Ev.aload_n rfl rfl ?_
      refine Ev.getf rfl rfl (by assumption) rfl ?_
      refine Ev.iload_n rfl rfl ?_
      refine Ev.cV1 rfl rfl (by assumption) rfl rfl (by decide) ⟨(Nat.le_refl _), (Nat.le_refl _)⟩ (planAt_some hT w2 hj) ?_
      refine Ev.astore rfl rfl rfl ?_
      refine Ev.aload_nN rfl rfl ?_
      refine Ev.ifnullN (tgt := 42) rfl (by decide) ?_
      refine Ev.null rfl ?_
      refine Ev.aret rfl rfl (Or.inl ⟨_, rfl⟩) (Or.inl rfl) (Nat.le_refl _) (Nat.le_refl _) ?_
      rw [← hQ]
      exact ⟨rfl, rfl⟩
end
end
