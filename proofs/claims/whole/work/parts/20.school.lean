/-! The class: a school and a class of a plan, and the methods that only read them. -/
noncomputable section
/-- a school: learners, teachers, its arrays (steps, evenings, prices, partners, chances, teachers' evenings, breadths, gains, stays, rules) -/
abbrev Sch : Type := Int32 × Int32 × (Nat → Nat → Int32)
/-- a class of a plan: kind, teacher, evening, step, second step, who sits -/
abbrev Les : Type := Nat → Int32
def isL (σ : ex_S) (c : Nat) (C : Les) : Prop := σ.2 c = some (.inr (.inr (4, [.int (C 0), .int (C 1), .int (C 2), .int (C 3), .int (C 4), .int (C 5)])))
def isS (σ : ex_S) (a : Nat) (S : Sch) : Prop :=
  σ.2 a = some (.inr (.inr (2, [.int S.1, .ref (a + 1), .ref (a + 2), .ref (a + 3), .ref (a + 4), .ref (a + 5), .int S.2.1, .ref (a + 6), .ref (a + 7), .ref (a + 8), .ref (a + 9), .ref (a + 10)]))) ∧
  σ.2 (a + 1) = some (.inl (0, 17, S.2.2 0)) ∧ σ.2 (a + 2) = some (.inl (0, 16, S.2.2 1)) ∧ σ.2 (a + 3) = some (.inl (0, 16, S.2.2 2)) ∧ σ.2 (a + 4) = some (.inl (0, 16, S.2.2 3)) ∧ σ.2 (a + 5) = some (.inl (0, 16, S.2.2 4)) ∧ σ.2 (a + 6) = some (.inl (0, 5, S.2.2 5)) ∧ σ.2 (a + 7) = some (.inl (0, 5, S.2.2 6)) ∧ σ.2 (a + 8) = some (.inl (0, 7, S.2.2 7)) ∧ σ.2 (a + 9) = some (.inl (0, 7, S.2.2 8)) ∧ σ.2 (a + 10) = some (.inl (0, 11, S.2.2 9))
def K_base (S : Sch) (step own : Int32) : Int32 := if step - own < -3 then 0 else if 3 < step - own then 0 else S.2.2 7 (step - own + 3).toNatClampNeg
theorem in7 {x : Int32} (h1 : ¬ x < -3) (h2 : ¬ 3 < x) : vp_in (x + 3) 7 := by
  rw [vp_in_iff]
  rw [Int32.lt_iff_toInt_lt] at h1 h2
  have e1 : (-3 : Int32).toInt = -3 := by decide
  have e2 : (3 : Int32).toInt = 3 := by decide
  rw [e1] at h1
  rw [e2] at h2
  rw [Int32.toInt_add, e2, Int.bmod_eq_of_le (by omega) (by omega)]
  omega
section
variable {Γ : ex_G} {σ : ex_S} {a : Nat} {S : Sch}
theorem base_ok (hS : isS σ a S) (step own : Int32) : RetV Γ m_School_base [.ref a, .int step, .int own] σ (.int (K_base S step own)) := by
  obtain ⟨h0, h1, h2, h3, h4, h5, h6, h7, h8, h9, h10⟩ := hS
  refine Ret.start pm_82 rfl ?_
  refine Ev.iload_n rfl rfl ?_
  refine Ev.iload_n rfl rfl ?_
  refine Ev.isub rfl ?_
  refine Ev.istore_n rfl rfl rfl ?_
  refine Ev.iload_n rfl rfl ?_
  refine Ev.bipush (v := (-3)) rfl (by decide) ?_
  refine Ev.icmp_lt (tgt := 26) rfl (by decide) (fun c7 => ?_) (fun c7 => ?_)
  · skip
    refine Ev.iconst (v := 0) rfl (by decide) ?_
    refine Ev.iret (ty := .int) rfl rfl rfl (Nat.le_refl _) (Nat.le_refl _) ?_
    exact ⟨by simp [K_base, *], rfl⟩
  · skip
    refine Ev.iload_n rfl rfl ?_
    refine Ev.iconst (v := 3) rfl (by decide) ?_
    refine Ev.icmp_gt (tgt := 26) rfl (by decide) (fun c12 => ?_) (fun c12 => ?_)
    · skip
      refine Ev.iconst (v := 0) rfl (by decide) ?_
      refine Ev.iret (ty := .int) rfl rfl rfl (Nat.le_refl _) (Nat.le_refl _) ?_
      exact ⟨by simp [K_base, *], rfl⟩
    · skip
      refine Ev.aload_n rfl rfl ?_
      refine Ev.getf rfl rfl (by assumption) rfl ?_
      refine Ev.iload_n rfl rfl ?_
      refine Ev.iconst (v := 3) rfl (by decide) ?_
      refine Ev.iadd rfl ?_
      refine Ev.iald rfl (by assumption) (in7 c7 c12) ?_
      refine Ev.goto (tgt := 27) rfl (by decide) ?_
      refine Ev.iret (ty := .int) rfl rfl rfl (Nat.le_refl _) (Nat.le_refl _) ?_
      exact ⟨by simp [K_base, *], rfl⟩
end
end
