/-! The reference: its one row of numbers, and the methods that only read it. -/
noncomputable section
/-- the reference's object: its rows lie behind it; g: its numbers, by the fields' places -/
def mo (y : Nat) (g : Nat → Int32) : List Value := [.ref (y + 1), .ref (y + 2), .int (g 2), .int (g 3), .int (g 4), .int (g 5), .int (g 6), .int (g 7), .int (g 8), .int (g 9), .ref (y + 3), .int (g 11), .ref (y + 4), .ref (y + 5), .ref (y + 6), .ref (y + 7), .int (g 16), .ref (y + 8), .ref (y + 9), .ref (y + 10), .int (g 20), .int (g 21), .ref (y + 11), .int (g 23), .ref (y + 12), .ref (y + 13), .ref (y + 14), .int (g 27), .ref (y + 15), .ref (y + 16)]
def isM (σ : ex_S) (y : Nat) (g A : Nat → Int32) : Prop := σ.2 y = some (.inr (.inr (10, mo y g))) ∧ σ.2 (y + 1) = some (.inl (0, 4500, A))
/-- a school's picture from place s on -/
def mS (A : Nat → Int32) (s : Nat) (S : Sch) : Prop :=
  A s = nI S.1 ∧ A (s + 1) = nI S.2.1 ∧ (∀ j, j < 11 → A (s + 2 + j) = S.2.2 9 j) ∧ (∀ i, i < S.1 → A (s + 13 + i) = S.2.2 0 i ∧ A (s + 29 + i) = S.2.2 1 i ∧ A (s + 45 + i) = S.2.2 2 i ∧ A (s + 61 + i) = S.2.2 3 i ∧ A (s + 77 + i) = S.2.2 4 i) ∧ (∀ i, i < S.2.1 → A (s + 93 + i) = S.2.2 5 i ∧ A (s + 98 + i) = S.2.2 6 i) ∧ (∀ d, d < 7 → A (s + 103 + d) = S.2.2 7 d ∧ A (s + 110 + d) = S.2.2 8 d)
/-- a class's picture from place c on -/
def mL (A : Nat → Int32) (c : Nat) (C : Les) : Prop := ∀ k, k < 6 → A (c + k) = C k
/-- a plan's picture from place p on -/
def mP (A : Nat → Int32) (p : Nat) (P : Pln) : Prop := A p = nI P.1 ∧ ∀ k, k < P.1 → mL A (p + 1 + 6 * k) (P.2 k)
def K_in (v lo hi : Int32) : Int32 := if v < lo then 0 else if hi < v then 0 else 1
def K_abs (v : Int32) : Int32 := if 0 ≤ v then v else -v
theorem i_3 {d : Int32} (h1 : -1000 < d.toInt) (h2 : d.toInt < 1000) : K_abs d ≤ 3 ↔ ¬ d < -3 ∧ ¬ 3 < d := by
  unfold K_abs
  rw [Int32.lt_iff_toInt_lt, Int32.lt_iff_toInt_lt]
  have e0 : (0 : Int32).toInt = 0 := by decide
  have e1 : (-3 : Int32).toInt = -3 := by decide
  have e2 : (3 : Int32).toInt = 3 := by decide
  rw [e1, e2]
  split
  · rename_i h
    rw [Int32.le_iff_toInt_le, e0] at h
    rw [Int32.le_iff_toInt_le, e2]
    omega
  · rename_i h
    rw [Int32.le_iff_toInt_le, e0] at h
    rw [Int32.le_iff_toInt_le, e2, Int32.toInt_neg, Int.bmod_eq_of_le (by omega) (by omega)]
    omega
theorem ix_tab {s : Nat} {step own : Int32} {j : Nat} (h : step - own + 3 = nI j) : nI s + 103 + 3 + step - own = nI (s + 103 + j) := by
  rw [← nI_add, ← nI_add, ← h]
  have : (103 : Int32) = nI 103 := rfl
  rw [this]
  grind
section
variable {Γ : ex_G} {σ : ex_S} {y s c : Nat} {g A : Nat → Int32} {S : Sch} {C : Les} {P : Pln}
theorem m_in_ok (v lo hi : Int32) : RetV Γ m_M_isIn [.int v, .int lo, .int hi] σ (.int (K_in v lo hi)) := by
  refine Ret.start pm_163 rfl ?_
  refine Ev.iload_n rfl rfl ?_
  refine Ev.iload_n rfl rfl ?_
  refine Ev.icmp_lt (tgt := 14) rfl (by decide) (fun c2 => ?_) (fun c2 => ?_)
  · skip
    refine Ev.iconst (v := 0) rfl (by decide) ?_
    refine Ev.iret (ty := .boolean) rfl rfl rfl (Nat.le_refl _) (Nat.le_refl _) ?_
    exact ⟨by simp [K_in, *], rfl⟩
  · skip
    refine Ev.iload_n rfl rfl ?_
    refine Ev.iload_n rfl rfl ?_
    refine Ev.icmp_gt (tgt := 14) rfl (by decide) (fun c7 => ?_) (fun c7 => ?_)
    · skip
      refine Ev.iconst (v := 0) rfl (by decide) ?_
      refine Ev.iret (ty := .boolean) rfl rfl rfl (Nat.le_refl _) (Nat.le_refl _) ?_
      exact ⟨by simp [K_in, *], rfl⟩
    · skip
      refine Ev.iconst (v := 1) rfl (by decide) ?_
      refine Ev.goto (tgt := 15) rfl (by decide) ?_
      refine Ev.iret (ty := .boolean) rfl rfl rfl (Nat.le_refl _) (Nat.le_refl _) ?_
      exact ⟨by simp [K_in, *], rfl⟩
theorem m_place_ok (sort k : Int32) : RetV Γ m_M_placeOf [.int sort, .int k] σ (.int (if sort = 0 then 610 + 120 * k else 970 + 40 * k)) := by
  refine Ret.start pm_185 rfl ?_
  refine Ev.iload_n rfl rfl ?_
  refine Ev.if_ne (tgt := 15) rfl (by decide) (fun c1 => ?_) (fun c1 => ?_)
  · skip
    refine Ev.sipush (v := 970) rfl (by decide) ?_
    refine Ev.bipush (v := 40) rfl (by decide) ?_
    refine Ev.iload_n rfl rfl ?_
    refine Ev.imul rfl ?_
    refine Ev.iadd rfl ?_
    refine Ev.iret (ty := .int) rfl rfl rfl (Nat.le_refl _) (Nat.le_refl _) ?_
    exact ⟨by simp [*], rfl⟩
  · skip
    refine Ev.sipush (v := 610) rfl (by decide) ?_
    refine Ev.bipush (v := 120) rfl (by decide) ?_
    refine Ev.iload_n rfl rfl ?_
    refine Ev.imul rfl ?_
    refine Ev.iadd rfl ?_
    refine Ev.goto (tgt := 23) rfl (by decide) ?_
    refine Ev.iret (ty := .int) rfl rfl rfl (Nat.le_refl _) (Nat.le_refl _) ?_
    exact ⟨by simp [*], rfl⟩
theorem m_size_ok (v : Int32) : RetV Γ m_M_size [.int v] σ (.int (K_abs v)) := by
  refine Ret.start pm_200 rfl ?_
  refine Ev.iload_n rfl rfl ?_
  refine Ev.if_ge (tgt := 9) rfl (by decide) (fun c1 => ?_) (fun c1 => ?_)
  · skip
    refine Ev.iload_n rfl rfl ?_
    refine Ev.iret (ty := .int) rfl rfl rfl (Nat.le_refl _) (Nat.le_refl _) ?_
    exact ⟨by simp [K_abs, *], rfl⟩
  · skip
    refine Ev.iload_n rfl rfl ?_
    refine Ev.ineg rfl ?_
    refine Ev.goto (tgt := 10) rfl (by decide) ?_
    refine Ev.iret (ty := .int) rfl rfl rfl (Nat.le_refl _) (Nat.le_refl _) ?_
    exact ⟨by simp [K_abs, *], rfl⟩
theorem m_base_ok (hM : isM σ y g A) (hS : mS A s S) (hs : s + 120 ≤ 4500) (step own : Int32) (h1 : -1000 < (step - own).toInt) (h2 : (step - own).toInt < 1000) : RetV Γ m_M_baseOf [.ref y, .int (nI s), .int step, .int own] σ (.int (K_base S step own)) := by
  obtain ⟨m0, m1⟩ := id hM
  unfold RetV
  generalize hQ : (fun (r : Option Value) (σ' : ex_S) => r = some (Value.int (K_base S step own)) ∧ σ' = σ) = Q
  refine Ret.start pm_201 rfl ?_
  refine Ev.iload_n rfl rfl ?_
  refine Ev.iload_n rfl rfl ?_
  refine Ev.isub rfl ?_
  refine Ev.cS1 rfl rfl rfl (by decide) ⟨(Nat.le_refl _), (Nat.le_refl _)⟩ (m_size_ok _) ?_
  refine Ev.iconst (v := 3) rfl (by decide) ?_
  refine Ev.icmp_le (tgt := 14) rfl (by decide) (fun c7 => ?_) (fun c7 => ?_)
  · skip
    obtain ⟨a1, a2⟩ := (i_3 h1 h2).mp c7
    obtain ⟨j, hj, ej⟩ := vp_in_of (in7 a1 a2) (by decide)
    refine Ev.aload_n rfl rfl ?_
    refine Ev.getf rfl rfl (by assumption) rfl ?_
    refine Ev.iload_n rfl rfl ?_
    refine Ev.bipush (v := 103) rfl (by decide) ?_
    refine Ev.iadd rfl ?_
    refine Ev.iconst (v := 3) rfl (by decide) ?_
    refine Ev.iadd rfl ?_
    refine Ev.iload_n rfl rfl ?_
    refine Ev.iadd rfl ?_
    refine Ev.iload_n rfl rfl ?_
    refine Ev.isub rfl ?_
    refine Ev.ialdN (k := s + 103 + j) rfl (by assumption) (ix_tab ej) ⟨(by omega), by decide⟩ ?_
    refine Ev.iret (ty := .int) rfl rfl rfl (Nat.le_refl _) (Nat.le_refl _) ?_
    rw [← hQ]
    first
      | (refine ⟨?_, rfl⟩
         rw [(hS.2.2.2.2.2 j hj).1]
         simp only [K_base, if_neg a1, if_neg a2, ej, nI_clamp (show j < 2 ^ 31 by omega)])
      | (refine ⟨?_, rfl⟩
         have := mt (i_3 h1 h2).mpr c7
         unfold K_base
         by_cases q : step - own < -3
         · rw [if_pos q]
         · rw [if_neg q, if_pos (by by_cases z : 3 < step - own; exact z; exact absurd ⟨q, z⟩ this)])
  · skip
    refine Ev.iconst (v := 0) rfl (by decide) ?_
    refine Ev.goto (tgt := 29) rfl (by decide) ?_
    refine Ev.iret (ty := .int) rfl rfl rfl (Nat.le_refl _) (Nat.le_refl _) ?_
    rw [← hQ]
    first
      | (refine ⟨?_, rfl⟩
         rw [(hS.2.2.2.2.2 j hj).1]
         simp only [K_base, if_neg a1, if_neg a2, ej, nI_clamp (show j < 2 ^ 31 by omega)])
      | (refine ⟨?_, rfl⟩
         have := mt (i_3 h1 h2).mpr c7
         unfold K_base
         by_cases q : step - own < -3
         · rw [if_pos q]
         · rw [if_neg q, if_pos (by by_cases z : 3 < step - own; exact z; exact absurd ⟨q, z⟩ this)])
end
end
