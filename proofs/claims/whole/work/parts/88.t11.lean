/-! Next year: where it is kept, the class and the reference. -/
noncomputable section
/-- where a further one goes, or one that is there -/
def plc (w : Int32) (c n : Nat) : Prop := (w = -1 ∧ c < 3 ∧ n = c) ∨ (w = nI n ∧ n < c)
def plx (w : Int32) (c : Nat) : Prop := (w = -1 ∧ 3 ≤ c) ∨ (¬ w = -1 ∧ (w < 0 ∨ nI c ≤ w))
theorem nI_m1 {n : Nat} (h : n < 2 ^ 30) : ¬ nI n = -1 := fun e => by
  have q : (nI n).toInt = (-1 : Int32).toInt := by rw [e]
  rw [nI_toInt (by omega), show (-1 : Int32).toInt = -1 from rfl] at q
  omega
theorem plc_cases (w : Int32) {c : Nat} (hc : c ≤ 3) : plx w c ∨ ∃ n, plc w c n := by
  by_cases e : w = -1
  · by_cases d : c < 3
    · exact Or.inr ⟨c, Or.inl ⟨e, d, rfl⟩⟩
    · exact Or.inl (Or.inl ⟨e, by omega⟩)
  · rcases ix_cases w (n := c) (by omega) with h | h | ⟨n, hn, e2⟩
    · exact Or.inl (Or.inr ⟨e, Or.inl h⟩)
    · exact Or.inl (Or.inr ⟨e, Or.inr h⟩)
    · exact Or.inr ⟨n, Or.inr ⟨e2, hn⟩⟩
theorem plc.lt {w : Int32} {c n : Nat} (h : plc w c n) (hc : c ≤ 3) : n < 3 ∧ n ≤ c := by
  rcases h with ⟨-, h, rfl⟩ | ⟨-, h⟩
  · exact ⟨h, Nat.le_refl _⟩
  · exact ⟨by omega, by omega⟩
section
variable {Γ : ex_G} {σ : ex_S} {x q a p y : Nat} {S : Sch} {T : Tol} {P : Pln} {g A : Nat → Int32}
theorem place_some {w : Int32} {c n : Nat} (h : plc w c n) (hc : c ≤ 3) : RetV Γ m_SD_placeFor [.int w, .int (nI c)] σ (.int (nI n)) := by
  unfold RetV
  generalize hQ : (fun (r : Option Value) (σ' : ex_S) => r = some ((.int (nI n)) : Value) ∧ σ' = σ) = Q
  refine Ret.start pm_47 rfl ?_
  rcases h with ⟨rfl, h3, rfl⟩ | ⟨rfl, h3⟩
  · skip
    refine Ev.iload_n rfl rfl ?_
    refine Ev.iconst (v := (-1)) rfl (by decide) ?_
    refine Ev.icmp_ne (tgt := 16) rfl (by decide) (fun c2 => absurd rfl c2) (fun c2 => ?_)
    refine Ev.iload_n rfl rfl ?_
    refine Ev.iconst (v := 3) rfl (by decide) ?_
    refine Ev.icmp_ge (tgt := 14) rfl (by decide) (fun c7 => absurd c7 (by have := nI_lt (a := n) (b := 3) h3 (by omega); exact Int32.not_le.mpr this)) (fun c7 => ?_)
    refine Ev.iload_n rfl rfl ?_
    refine Ev.goto (tgt := 15) rfl (by decide) ?_
    refine Ev.iret (ty := .int) rfl rfl rfl (Nat.le_refl _) (Nat.le_refl _) ?_
    rw [← hQ]
    exact ⟨rfl, rfl⟩
  · skip
    refine Ev.iload_n rfl rfl ?_
    refine Ev.iconst (v := (-1)) rfl (by decide) ?_
    refine Ev.icmp_ne (tgt := 16) rfl (by decide) (fun c2 => ?_) (fun c2 => absurd c2 (nI_m1 (by omega)))
    refine Ev.iload_n rfl rfl ?_
    refine Ev.if_lt (tgt := 29) rfl (by decide) (fun c17 => absurd c17 (nI_pos (by omega))) (fun c17 => ?_)
    refine Ev.iload_n rfl rfl ?_
    refine Ev.iload_n rfl rfl ?_
    refine Ev.icmp_ge (tgt := 29) rfl (by decide) (fun c22 => absurd c22 (Int32.not_le.mpr (nI_lt h3 (by omega)))) (fun c22 => ?_)
    refine Ev.iload_n rfl rfl ?_
    refine Ev.goto (tgt := 30) rfl (by decide) ?_
    refine Ev.iret (ty := .int) rfl rfl rfl (Nat.le_refl _) (Nat.le_refl _) ?_
    rw [← hQ]
    exact ⟨rfl, rfl⟩
theorem place_no {w : Int32} {c : Nat} (h : plx w c) (hc : c ≤ 3) : RetV Γ m_SD_placeFor [.int w, .int (nI c)] σ (.int (-1)) := by
  unfold RetV
  generalize hQ : (fun (r : Option Value) (σ' : ex_S) => r = some ((.int (-1)) : Value) ∧ σ' = σ) = Q
  refine Ret.start pm_47 rfl ?_
  rcases h with ⟨rfl, h3⟩ | ⟨hm, h | h⟩
  · skip
    refine Ev.iload_n rfl rfl ?_
    refine Ev.iconst (v := (-1)) rfl (by decide) ?_
    refine Ev.icmp_ne (tgt := 16) rfl (by decide) (fun c2 => absurd rfl c2) (fun c2 => ?_)
    refine Ev.iload_n rfl rfl ?_
    refine Ev.iconst (v := 3) rfl (by decide) ?_
    refine Ev.icmp_ge (tgt := 14) rfl (by decide) (fun c7 => ?_) (fun c7 => absurd (nI_le (a := 3) h3 (by omega)) c7)
    refine Ev.iconst (v := (-1)) rfl (by decide) ?_
    refine Ev.iret (ty := .int) rfl rfl rfl (Nat.le_refl _) (Nat.le_refl _) ?_
    rw [← hQ]
    exact ⟨rfl, rfl⟩
  · skip
    refine Ev.iload_n rfl rfl ?_
    refine Ev.iconst (v := (-1)) rfl (by decide) ?_
    refine Ev.icmp_ne (tgt := 16) rfl (by decide) (fun c2 => ?_) (fun c2 => absurd c2 hm)
    refine Ev.iload_n rfl rfl ?_
    refine Ev.if_lt (tgt := 29) rfl (by decide) (fun c17 => ?_) (fun c17 => absurd h c17)
    refine Ev.iconst (v := (-1)) rfl (by decide) ?_
    refine Ev.iret (ty := .int) rfl rfl rfl (Nat.le_refl _) (Nat.le_refl _) ?_
    rw [← hQ]
    exact ⟨rfl, rfl⟩
  · skip
    refine Ev.iload_n rfl rfl ?_
    refine Ev.iconst (v := (-1)) rfl (by decide) ?_
    refine Ev.icmp_ne (tgt := 16) rfl (by decide) (fun c2 => ?_) (fun c2 => absurd c2 hm)
    refine Ev.iload_n rfl rfl ?_
    refine Ev.if_lt (tgt := 29) rfl (by decide) (fun c17 => ?_) (fun c17 => ?_)
    · skip
      refine Ev.iconst (v := (-1)) rfl (by decide) ?_
      refine Ev.iret (ty := .int) rfl rfl rfl (Nat.le_refl _) (Nat.le_refl _) ?_
      rw [← hQ]
      exact ⟨rfl, rfl⟩
    · skip
      refine Ev.iload_n rfl rfl ?_
      refine Ev.iload_n rfl rfl ?_
      refine Ev.icmp_ge (tgt := 29) rfl (by decide) (fun c22 => ?_) (fun c22 => absurd h c22)
      refine Ev.iconst (v := (-1)) rfl (by decide) ?_
      refine Ev.iret (ty := .int) rfl rfl rfl (Nat.le_refl _) (Nat.le_refl _) ?_
      rw [← hQ]
      exact ⟨rfl, rfl⟩
theorem place_any (w : Int32) {c : Nat} (hc : c ≤ 3) : ∃ r : Int32, RetV Γ m_SD_placeFor [.int w, .int (nI c)] σ (.int r) := by
  rcases plc_cases w hc with h | ⟨n, h⟩
  · exact ⟨_, place_no h hc⟩
  · exact ⟨_, place_some h hc⟩
theorem m_free_yes (hM : isM σ y g A) (hT : mT A 0 T) (hw : wT T) {w : Int32} {n : Nat} (h : plc w (tSn T) n) : RetV Γ m_M_isFree [.ref y, .int 0, .int w] σ (.int (1)) := by
  obtain ⟨m0, m1⟩ := id hM
  unfold RetV
  generalize hQ : (fun (r : Option Value) (σ' : ex_S) => r = some ((.int (1)) : Value) ∧ σ' = σ) = Q
  refine Ret.start pm_188 rfl ?_
  have hc := hw.2.1
  have a0 : A 0 = nI (tSn T) := hT.1
  rcases h with ⟨rfl, h3, e⟩ | ⟨rfl, h3⟩
  · skip
    refine Ev.iload_n rfl rfl ?_
    refine Ev.iconst (v := (-1)) rfl (by decide) ?_
    refine Ev.icmp_ne (tgt := 23) rfl (by decide) (fun c2 => absurd rfl c2) (fun c2 => ?_)
    refine Ev.aload_n rfl rfl ?_
    refine Ev.getf rfl rfl (by assumption) rfl ?_
    refine Ev.iload_n rfl rfl ?_
    refine Ev.ialdN (k := 0) rfl (by assumption) rfl ⟨(by omega), by decide⟩ ?_
    refine Ev.iconst (v := 3) rfl (by decide) ?_
    refine Ev.icmp_ge (tgt := 19) rfl (by decide) (fun c12 => absurd (a0 ▸ c12) (Int32.not_le.mpr (nI_lt (b := 3) h3 (by omega)))) (fun c12 => ?_)
    refine Ev.iconst (v := 1) rfl (by decide) ?_
    refine Ev.goto (tgt := 29) rfl (by decide) ?_
    refine Ev.iret (ty := .boolean) rfl rfl rfl (Nat.le_refl _) (Nat.le_refl _) ?_
    rw [← hQ]
    exact ⟨rfl, rfl⟩
  · skip
    refine Ev.iload_n rfl rfl ?_
    refine Ev.iconst (v := (-1)) rfl (by decide) ?_
    refine Ev.icmp_ne (tgt := 23) rfl (by decide) (fun c2 => ?_) (fun c2 => absurd c2 (nI_m1 (by omega)))
    refine Ev.aload_n rfl rfl ?_
    refine Ev.iload_n rfl rfl ?_
    refine Ev.iload_n rfl rfl ?_
    refine Ev.cV2 rfl rfl (by assumption) rfl rfl (by decide) ⟨(Nat.le_refl _), (Nat.le_refl _)⟩ (m_isOf0_yes hM hT hw h3) ?_
    refine Ev.iret (ty := .boolean) rfl rfl rfl (Nat.le_refl _) (Nat.le_refl _) ?_
    rw [← hQ]
    exact ⟨rfl, rfl⟩
theorem m_free_no (hM : isM σ y g A) (hT : mT A 0 T) (hw : wT T) {w : Int32} (h : plx w (tSn T)) : RetV Γ m_M_isFree [.ref y, .int 0, .int w] σ (.int (0)) := by
  obtain ⟨m0, m1⟩ := id hM
  unfold RetV
  generalize hQ : (fun (r : Option Value) (σ' : ex_S) => r = some ((.int (0)) : Value) ∧ σ' = σ) = Q
  refine Ret.start pm_188 rfl ?_
  have hc := hw.2.1
  have a0 : A 0 = nI (tSn T) := hT.1
  rcases h with ⟨rfl, h3⟩ | ⟨hm, h⟩
  · skip
    refine Ev.iload_n rfl rfl ?_
    refine Ev.iconst (v := (-1)) rfl (by decide) ?_
    refine Ev.icmp_ne (tgt := 23) rfl (by decide) (fun c2 => absurd rfl c2) (fun c2 => ?_)
    refine Ev.aload_n rfl rfl ?_
    refine Ev.getf rfl rfl (by assumption) rfl ?_
    refine Ev.iload_n rfl rfl ?_
    refine Ev.ialdN (k := 0) rfl (by assumption) rfl ⟨(by omega), by decide⟩ ?_
    refine Ev.iconst (v := 3) rfl (by decide) ?_
    refine Ev.icmp_ge (tgt := 19) rfl (by decide) (fun c12 => ?_) (fun c12 => absurd (a0.symm ▸ nI_le (a := 3) h3 (by omega)) c12)
    refine Ev.iconst (v := 0) rfl (by decide) ?_
    refine Ev.goto (tgt := 29) rfl (by decide) ?_
    refine Ev.iret (ty := .boolean) rfl rfl rfl (Nat.le_refl _) (Nat.le_refl _) ?_
    rw [← hQ]
    exact ⟨rfl, rfl⟩
  · skip
    refine Ev.iload_n rfl rfl ?_
    refine Ev.iconst (v := (-1)) rfl (by decide) ?_
    refine Ev.icmp_ne (tgt := 23) rfl (by decide) (fun c2 => ?_) (fun c2 => absurd c2 hm)
    refine Ev.aload_n rfl rfl ?_
    refine Ev.iload_n rfl rfl ?_
    refine Ev.iload_n rfl rfl ?_
    refine Ev.cV2 rfl rfl (by assumption) rfl rfl (by decide) ⟨(Nat.le_refl _), (Nat.le_refl _)⟩ (m_isOf0_no hM hT hw h) ?_
    refine Ev.iret (ty := .boolean) rfl rfl rfl (Nat.le_refl _) (Nat.le_refl _) ?_
    rw [← hQ]
    exact ⟨rfl, rfl⟩
end
end
