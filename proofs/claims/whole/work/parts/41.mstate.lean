/-! The reference: all that is told, and which plan goes in which school. -/
noncomputable section
/-- all that is told, in the reference's row from place b on -/
def mT (A : Nat → Int32) (b : Nat) (T : Tol) : Prop :=
  A b = nI (tSn T) ∧ A (b + 1) = nI (tPn T) ∧ A (b + 2) = nI (tN T) ∧ A (b + 3) = tF T ∧ A (b + 4) = tQ T ∧ (∀ i, i < 600 → A (b + 10 + i) = tB T i &&& 255) ∧ (∀ k, k < tSn T → mS A (b + 610 + 120 * k) (tS T k)) ∧ ∀ k, k < tPn T → mP A (b + 970 + 40 * k) (tP T k)
theorem mT.s {A : Nat → Int32} {T : Tol} (h : mT A 0 T) {k : Nat} (hk : k < tSn T) : mS A (610 + 120 * k) (tS T k) := by
  have := h.2.2.2.2.2.2.1 k hk
  simpa using this
theorem mT.p {A : Nat → Int32} {T : Tol} (h : mT A 0 T) {k : Nat} (hk : k < tPn T) : mP A (970 + 40 * k) (tP T k) := by
  have := h.2.2.2.2.2.2.2 k hk
  simpa using this
theorem K_in_yes {n i : Nat} (hi : i < n) (hn : n < 1000) : K_in (nI i) 0 (nI n - 1) = 1 := by
  obtain ⟨m, rfl⟩ : ∃ m, n = m + 1 := ⟨n - 1, by omega⟩
  unfold K_in
  rw [nI_pred, if_neg (nI_pos (by omega)), if_neg (nI_nlt (by omega) (by omega))]
theorem K_in_no {n : Nat} {u : Int32} (hn : n < 1000) (h : u < 0 ∨ nI n ≤ u) : K_in u 0 (nI n - 1) = 0 := by
  unfold K_in
  by_cases h0 : u < 0
  · rw [if_pos h0]
  · rw [if_neg h0, if_pos]
    rcases h with h | h
    · exact absurd h h0
    · have hd := pk_sub_toInt (a := n) (b := 1) (by omega) (by omega)
      have e1 : (1 : Int32) = nI 1 := rfl
      rw [e1, lt_toInt, hd]
      rw [le_toInt, nI_toInt (by omega)] at h
      omega
def F_go (S : Sch) (P : Pln) (k : Nat) (x : Int32) : Int32 := if x = 0 then 0 else if nI S.2.1 ≤ P.2 k 1 then 0 else if ¬ (P.2 k 5 >>> (nI S.1 &&& 31)) = 0 then 0 else 1
theorem okC_iff2 {S : Sch} (hw : wS S) {C : Les} (hl : wL C) : okC S C ↔ ¬ nI S.2.1 ≤ C 1 ∧ (C 5 >>> (nI S.1 &&& 31)) = 0 := by
  obtain ⟨t, et, -, ht, -⟩ := hl.2.1.nat (by decide)
  obtain ⟨w, ew, -, hw5, -⟩ := hl.2.2.2.2.2.nat (by decide)
  have h5 : t < 5 := by omega
  have h16 : w < 65536 := by omega
  have hp : 2 ^ S.1 ≤ 2 ^ 16 := Nat.pow_le_pow_right (by decide) hw.1
  have hn := hw.1
  have ht5 := hw.2.1
  rw [et, ew, nI_leI (by omega) (by omega), pk_shrN (by omega) _ S.1 (sh_amt S.1 (by omega)), show (0 : Int32) = nI 0 from rfl, nI_eq (by have := Nat.div_le_self w (2 ^ S.1); omega) (by omega)]
  have hdiv : w / 2 ^ S.1 = 0 ↔ w < 2 ^ S.1 := by
    constructor
    · intro h
      exact (Nat.div_eq_zero_iff.mp h).resolve_left (by have := Nat.two_pow_pos S.1; omega)
    · exact Nat.div_eq_of_lt
  rw [hdiv]
  constructor
  · rintro ⟨⟨t', h1, e1⟩, w', h2, e2⟩
    rw [et, nI_eq (by omega) (by omega)] at e1
    rw [ew, nI_eq (by omega) (by omega)] at e2
    subst e1; subst e2
    exact ⟨by omega, h2⟩
  · rintro ⟨h1, h2⟩
    exact ⟨⟨t, by omega, et⟩, w, h2, ew⟩
theorem go_iff {S : Sch} (hw : wS S) {P : Pln} (hwp : wP P) : ∀ (k i : Nat) (x : Int32), (x = 0 ∨ x = 1) → i + k ≤ P.1 → (fo (F_go S P) k i x = 0 ∨ fo (F_go S P) k i x = 1) ∧ (fo (F_go S P) k i x = 1 ↔ x = 1 ∧ ∀ j, i ≤ j → j < i + k → okC S (P.2 j)) := by
  intro k
  induction k with
  | zero =>
    intro i x hx _
    exact ⟨hx, ⟨fun h => ⟨h, fun j h1 h2 => by omega⟩, fun h => h.1⟩⟩
  | succ k ih =>
    intro i x hx hi
    rw [fo_succ]
    have hF : F_go S P i x = 0 ∨ F_go S P i x = 1 := by
      unfold F_go
      repeat' split
      all_goals simp
    have hF1 : F_go S P i x = 1 ↔ x = 1 ∧ okC S (P.2 i) := by
      rw [okC_iff2 hw (hwp.2 i (by omega))]
      unfold F_go
      rcases hx with rfl | rfl
      · simp
      · by_cases h1 : nI S.2.1 ≤ P.2 i 1
        · simp [h1]
        · by_cases h2 : P.2 i 5 >>> (nI S.1 &&& 31) = 0
          · simp [h1, h2]
          · simp [h1, h2]
    obtain ⟨h1, h2⟩ := ih (i + 1) (F_go S P i x) hF (by omega)
    refine ⟨h1, ?_⟩
    rw [h2, hF1]
    constructor
    · rintro ⟨⟨a, b⟩, d⟩
      refine ⟨a, fun j q1 q2 => ?_⟩
      by_cases e : j = i
      · subst e; exact b
      · exact d j (by omega) (by omega)
    · rintro ⟨a, d⟩
      exact ⟨⟨a, d i (Nat.le_refl _) (by omega)⟩, fun j q1 q2 => d j (by omega) (by omega)⟩
section
variable {Γ : ex_G} {σ : ex_S} {y s c p : Nat} {g A : Nat → Int32} {S : Sch} {C : Les} {P : Pln} {T : Tol}
theorem m_isOf0_yes (hM : isM σ y g A) (hT : mT A 0 T) (hw : wT T) {i : Nat} (hi : i < tSn T) : RetV Γ m_M_isOf [.ref y, .int 0, .int (nI i)] σ (.int (1)) := by
  obtain ⟨m0, m1⟩ := id hM
  unfold RetV
  generalize hQ : (fun (r : Option Value) (σ' : ex_S) => r = some ((.int (1)) : Value) ∧ σ' = σ) = Q
  refine Ret.start pm_187 rfl ?_
  have hc : A 0 = nI (tSn T) := hT.1
  have hb : tSn T < 1000 := by have := hw.2.1; have := hw.2.2.1; omega
  refine Ev.iload_n rfl rfl ?_
  refine Ev.iconst (v := 0) rfl (by decide) ?_
  refine Ev.aload_n rfl rfl ?_
  refine Ev.getf rfl rfl (by assumption) rfl ?_
  refine Ev.iload_n rfl rfl ?_
  refine Ev.ialdN (k := 0) rfl (by assumption) rfl ⟨(by decide), by decide⟩ ?_
  rw [hc]
  refine Ev.iconst (v := 1) rfl (by decide) ?_
  refine Ev.isub rfl ?_
  refine Ev.cS3 rfl rfl rfl (by decide) ⟨(Nat.le_refl _), (Nat.le_refl _)⟩ (m_in_ok _ _ _) ?_
  rw [K_in_yes hi hb]
  refine Ev.iret (ty := .boolean) rfl rfl rfl (Nat.le_refl _) (Nat.le_refl _) ?_
  rw [← hQ]
  exact ⟨rfl, rfl⟩
theorem m_isOf0_no (hM : isM σ y g A) (hT : mT A 0 T) (hw : wT T) {u : Int32} (hu : u < 0 ∨ nI (tSn T) ≤ u) : RetV Γ m_M_isOf [.ref y, .int 0, .int u] σ (.int (0)) := by
  obtain ⟨m0, m1⟩ := id hM
  unfold RetV
  generalize hQ : (fun (r : Option Value) (σ' : ex_S) => r = some ((.int (0)) : Value) ∧ σ' = σ) = Q
  refine Ret.start pm_187 rfl ?_
  have hc : A 0 = nI (tSn T) := hT.1
  have hb : tSn T < 1000 := by have := hw.2.1; have := hw.2.2.1; omega
  refine Ev.iload_n rfl rfl ?_
  refine Ev.iconst (v := 0) rfl (by decide) ?_
  refine Ev.aload_n rfl rfl ?_
  refine Ev.getf rfl rfl (by assumption) rfl ?_
  refine Ev.iload_n rfl rfl ?_
  refine Ev.ialdN (k := 0) rfl (by assumption) rfl ⟨(by decide), by decide⟩ ?_
  rw [hc]
  refine Ev.iconst (v := 1) rfl (by decide) ?_
  refine Ev.isub rfl ?_
  refine Ev.cS3 rfl rfl rfl (by decide) ⟨(Nat.le_refl _), (Nat.le_refl _)⟩ (m_in_ok _ _ _) ?_
  rw [K_in_no hb hu]
  refine Ev.iret (ty := .boolean) rfl rfl rfl (Nat.le_refl _) (Nat.le_refl _) ?_
  rw [← hQ]
  exact ⟨rfl, rfl⟩
theorem m_isOf1_yes (hM : isM σ y g A) (hT : mT A 0 T) (hw : wT T) {i : Nat} (hi : i < tPn T) : RetV Γ m_M_isOf [.ref y, .int 1, .int (nI i)] σ (.int (1)) := by
  obtain ⟨m0, m1⟩ := id hM
  unfold RetV
  generalize hQ : (fun (r : Option Value) (σ' : ex_S) => r = some ((.int (1)) : Value) ∧ σ' = σ) = Q
  refine Ret.start pm_187 rfl ?_
  have hc : A 1 = nI (tPn T) := hT.2.1
  have hb : tPn T < 1000 := by have := hw.2.1; have := hw.2.2.1; omega
  refine Ev.iload_n rfl rfl ?_
  refine Ev.iconst (v := 0) rfl (by decide) ?_
  refine Ev.aload_n rfl rfl ?_
  refine Ev.getf rfl rfl (by assumption) rfl ?_
  refine Ev.iload_n rfl rfl ?_
  refine Ev.ialdN (k := 1) rfl (by assumption) rfl ⟨(by decide), by decide⟩ ?_
  rw [hc]
  refine Ev.iconst (v := 1) rfl (by decide) ?_
  refine Ev.isub rfl ?_
  refine Ev.cS3 rfl rfl rfl (by decide) ⟨(Nat.le_refl _), (Nat.le_refl _)⟩ (m_in_ok _ _ _) ?_
  rw [K_in_yes hi hb]
  refine Ev.iret (ty := .boolean) rfl rfl rfl (Nat.le_refl _) (Nat.le_refl _) ?_
  rw [← hQ]
  exact ⟨rfl, rfl⟩
theorem m_isOf1_no (hM : isM σ y g A) (hT : mT A 0 T) (hw : wT T) {u : Int32} (hu : u < 0 ∨ nI (tPn T) ≤ u) : RetV Γ m_M_isOf [.ref y, .int 1, .int u] σ (.int (0)) := by
  obtain ⟨m0, m1⟩ := id hM
  unfold RetV
  generalize hQ : (fun (r : Option Value) (σ' : ex_S) => r = some ((.int (0)) : Value) ∧ σ' = σ) = Q
  refine Ret.start pm_187 rfl ?_
  have hc : A 1 = nI (tPn T) := hT.2.1
  have hb : tPn T < 1000 := by have := hw.2.1; have := hw.2.2.1; omega
  refine Ev.iload_n rfl rfl ?_
  refine Ev.iconst (v := 0) rfl (by decide) ?_
  refine Ev.aload_n rfl rfl ?_
  refine Ev.getf rfl rfl (by assumption) rfl ?_
  refine Ev.iload_n rfl rfl ?_
  refine Ev.ialdN (k := 1) rfl (by assumption) rfl ⟨(by decide), by decide⟩ ?_
  rw [hc]
  refine Ev.iconst (v := 1) rfl (by decide) ?_
  refine Ev.isub rfl ?_
  refine Ev.cS3 rfl rfl rfl (by decide) ⟨(Nat.le_refl _), (Nat.le_refl _)⟩ (m_in_ok _ _ _) ?_
  rw [K_in_no hb hu]
  refine Ev.iret (ty := .boolean) rfl rfl rfl (Nat.le_refl _) (Nat.le_refl _) ?_
  rw [← hQ]
  exact ⟨rfl, rfl⟩
theorem nle_bool (x : Int32) (h : x = 0 ∨ x = 1) : narrow .boolean (.int x) = .int x := by
  rcases h with rfl | rfl <;> rfl
theorem m_goes_yes (hM : isM σ y g A) (hT : mT A 0 T) (hw : wT T) {u v : Int32} {i0 j : Nat} (hg : gd T u v i0 j) : RetV Γ m_M_goes [.ref y, .int u, .int v] σ (.int (1)) := by
  obtain ⟨m0, m1⟩ := id hM
  unfold RetV
  generalize hQ : (fun (r : Option Value) (σ' : ex_S) => r = some ((.int (1)) : Value) ∧ σ' = σ) = Q
  refine Ret.start pm_198 rfl ?_
  obtain ⟨rfl, hi0, rfl, hj, hgo⟩ := hg
  have hws := hw.2.2.2.1 i0 hi0
  have hwp := hw.2.2.2.2 j hj
  have hS := hT.s hi0
  have hP := hT.p hj
  have h6 := hwp.1
  have hi3 : i0 < 3 := by have := hw.2.1; omega
  have hj3 : j < 3 := by have := hw.2.2.1; omega
  refine Ev.aload_n rfl rfl ?_
  refine Ev.iconst (v := 0) rfl (by decide) ?_
  refine Ev.iload_n rfl rfl ?_
  refine Ev.cV2 rfl rfl (by assumption) rfl rfl (by decide) ⟨(Nat.le_refl _), (Nat.le_refl _)⟩ (m_isOf0_yes hM hT hw hi0) ?_
  refine Ev.if_eq (tgt := 18) rfl (by decide) (fun c6 => absurd c6 (by decide)) (fun c6 => ?_)
  refine Ev.aload_n rfl rfl ?_
  refine Ev.iconst (v := 1) rfl (by decide) ?_
  refine Ev.iload_n rfl rfl ?_
  refine Ev.cV2 rfl rfl (by assumption) rfl rfl (by decide) ⟨(Nat.le_refl _), (Nat.le_refl _)⟩ (m_isOf1_yes hM hT hw hj) ?_
  refine Ev.if_ne (tgt := 20) rfl (by decide) (fun c15 => ?_) (fun c15 => absurd c15 (by decide))
  refine Ev.iconst (v := 0) rfl (by decide) ?_
  refine Ev.iload_n rfl rfl ?_
  refine Ev.cS2 rfl rfl rfl (by decide) ⟨(Nat.le_refl _), (Nat.le_refl _)⟩ (m_pl0_ok i0) ?_
  refine Ev.istore_n rfl rfl rfl ?_
  refine Ev.iconst (v := 1) rfl (by decide) ?_
  refine Ev.istore rfl rfl rfl ?_
  refine Ev.iconst (v := 0) rfl (by decide) ?_
  refine Ev.istore rfl rfl rfl ?_
  skip
  refine Ev.cg (L' := [some (.ref y), some (.int (nI i0)), some (.int (nI j)), some (.int (nI (610 + 120 * i0))), some (.int 1), some (.int (nI 0))]) ?_ (by first | rfl | simp [nI_0])
  refine lp (fun i z => Ev Γ 0 0 m_M_goes 0 0 32 [some (.ref y), some (.int (nI i0)), some (.int (nI j)), some (.int (nI (610 + 120 * i0))), some (.int z), some (.int (nI i))] [] σ Q) (F_go (tS T i0) (tP T j)) ((tP T j).1) (fun i z hi hnx => ?_) ((tP T j).1) 0 (1) (by omega) ?_
  · skip
    refine Ev.iload rfl rfl ?_
    refine Ev.aload_n rfl rfl ?_
    refine Ev.getf rfl rfl (by assumption) rfl ?_
    refine Ev.iconst (v := 1) rfl (by decide) ?_
    refine Ev.iload_n rfl rfl ?_
    refine Ev.cS2 rfl rfl rfl (by decide) ⟨(Nat.le_refl _), (Nat.le_refl _)⟩ (m_pl1_ok j) ?_
    refine Ev.ialdN (k := 970 + 40 * j) rfl (by assumption) rfl ⟨(by omega), by decide⟩ ?_
    rw [hP.1]
    refine Ev.icmp_ge (tgt := 114) rfl (by decide) (fun c44 => absurd c44 (nI_ge hi (by omega))) (fun c44 => ?_)
    refine Ev.iload rfl rfl ?_
    refine Ev.if_eq (tgt := 105) rfl (by decide) (fun c49 => ?_) (fun c49 => ?_)
    · skip
      refine Ev.iconst (v := 0) rfl (by decide) ?_
      refine Ev.istore rfl rfl rfl ?_
      refine Ev.iinc (d := 1) rfl rfl rfl (by decide) rfl ?_
      refine Ev.goto (tgt := 32) rfl (by decide) ?_
      exact hnx.cg (by first | (simp [nI_1, F_go, *]; done) | (simp [nI_1, F_go, *]; rfl))
    · skip
      refine Ev.aload_n rfl rfl ?_
      refine Ev.getf rfl rfl (by assumption) rfl ?_
      refine Ev.aload_n rfl rfl ?_
      refine Ev.iload_n rfl rfl ?_
      refine Ev.iload rfl rfl ?_
      refine Ev.cV2 rfl rfl (by assumption) rfl rfl (by decide) ⟨(Nat.le_refl _), (Nat.le_refl _)⟩ (m_classAt_ok hM i) ?_
      refine Ev.iconst (v := 1) rfl (by decide) ?_
      refine Ev.iadd rfl ?_
      refine Ev.ialdN (k := 970 + 40 * j + 1 + 6 * i + 1) rfl (by assumption) (nI_add _ 1) ⟨(by omega), by decide⟩ ?_
      rw [hP.2 i hi 1 (by decide)]
      refine Ev.aload_n rfl rfl ?_
      refine Ev.getf rfl rfl (by assumption) rfl ?_
      refine Ev.iload_n rfl rfl ?_
      refine Ev.iconst (v := 1) rfl (by decide) ?_
      refine Ev.iadd rfl ?_
      refine Ev.ialdN (k := 610 + 120 * i0 + 1) rfl (by assumption) (nI_add _ 1) ⟨(by omega), by decide⟩ ?_
      rw [hS.2.1]
      refine Ev.icmp_ge (tgt := 105) rfl (by decide) (fun c74 => ?_) (fun c74 => ?_)
      · skip
        refine Ev.iconst (v := 0) rfl (by decide) ?_
        refine Ev.istore rfl rfl rfl ?_
        refine Ev.iinc (d := 1) rfl rfl rfl (by decide) rfl ?_
        refine Ev.goto (tgt := 32) rfl (by decide) ?_
        exact hnx.cg (by first | (simp [nI_1, F_go, *]; done) | (simp [nI_1, F_go, *]; rfl))
      · skip
        refine Ev.aload_n rfl rfl ?_
        refine Ev.getf rfl rfl (by assumption) rfl ?_
        refine Ev.aload_n rfl rfl ?_
        refine Ev.iload_n rfl rfl ?_
        refine Ev.iload rfl rfl ?_
        refine Ev.cV2 rfl rfl (by assumption) rfl rfl (by decide) ⟨(Nat.le_refl _), (Nat.le_refl _)⟩ (m_classAt_ok hM i) ?_
        refine Ev.iconst (v := 5) rfl (by decide) ?_
        refine Ev.iadd rfl ?_
        refine Ev.ialdN (k := 970 + 40 * j + 1 + 6 * i + 5) rfl (by assumption) (nI_add _ 5) ⟨(by omega), by decide⟩ ?_
        rw [hP.2 i hi 5 (by decide)]
        refine Ev.aload_n rfl rfl ?_
        refine Ev.getf rfl rfl (by assumption) rfl ?_
        refine Ev.iload_n rfl rfl ?_
        refine Ev.ialdN (k := 610 + 120 * i0) rfl (by assumption) rfl ⟨(by omega), by decide⟩ ?_
        rw [hS.1]
        refine Ev.ishr rfl ?_
        refine Ev.if_ne (tgt := 105) rfl (by decide) (fun c98 => ?_) (fun c98 => ?_)
        · skip
          refine Ev.iconst (v := 0) rfl (by decide) ?_
          refine Ev.istore rfl rfl rfl ?_
          refine Ev.iinc (d := 1) rfl rfl rfl (by decide) rfl ?_
          refine Ev.goto (tgt := 32) rfl (by decide) ?_
          exact hnx.cg (by first | (simp [nI_1, F_go, *]; done) | (simp [nI_1, F_go, *]; rfl))
        · skip
          refine Ev.iconst (v := 1) rfl (by decide) ?_
          refine Ev.goto (tgt := 106) rfl (by decide) ?_
          refine Ev.istore rfl rfl rfl ?_
          refine Ev.iinc (d := 1) rfl rfl rfl (by decide) rfl ?_
          refine Ev.goto (tgt := 32) rfl (by decide) ?_
          exact hnx.cg (by first | (simp [nI_1, F_go, *]; done) | (simp [nI_1, F_go, *]; rfl))
  · skip
    refine Ev.iload rfl rfl ?_
    refine Ev.aload_n rfl rfl ?_
    refine Ev.getf rfl rfl (by assumption) rfl ?_
    refine Ev.iconst (v := 1) rfl (by decide) ?_
    refine Ev.iload_n rfl rfl ?_
    refine Ev.cS2 rfl rfl rfl (by decide) ⟨(Nat.le_refl _), (Nat.le_refl _)⟩ (m_pl1_ok j) ?_
    refine Ev.ialdN (k := 970 + 40 * j) rfl (by assumption) rfl ⟨(by omega), by decide⟩ ?_
    rw [hP.1]
    refine Ev.icmp_ge (tgt := 114) rfl (by decide) (fun c44 => ?_) (fun c44 => absurd (nI_le (Nat.le_refl _) (by omega)) c44)
    refine Ev.iload rfl rfl ?_
    refine Ev.iret (ty := .boolean) rfl rfl (nle_bool _ (go_iff hws hwp _ 0 1 (Or.inr rfl) (by omega)).1) (Nat.le_refl _) (Nat.le_refl _) ?_
    rw [← hQ]
    exact ⟨by rw [(go_iff hws hwp _ 0 1 (Or.inr rfl) (by omega)).2.mpr ⟨rfl, fun k _ h2 => hgo k (by omega)⟩], rfl⟩
theorem m_goes_no (hM : isM σ y g A) (hT : mT A 0 T) (hw : wT T) {u v : Int32} (hg : ¬ ∃ i j, gd T u v i j) : RetV Γ m_M_goes [.ref y, .int u, .int v] σ (.int (0)) := by
  obtain ⟨m0, m1⟩ := id hM
  unfold RetV
  generalize hQ : (fun (r : Option Value) (σ' : ex_S) => r = some ((.int (0)) : Value) ∧ σ' = σ) = Q
  refine Ret.start pm_198 rfl ?_
  have hwS := hw.2.1
  have hwP := hw.2.2.1
  rcases ix_cases u (n := tSn T) (by omega) with hu | hu | ⟨i0, hi0, rfl⟩
  rotate_right
  · rcases ix_cases v (n := tPn T) (by omega) with hv | hv | ⟨j, hj, rfl⟩
    rotate_right
    · skip
      have hws := hw.2.2.2.1 i0 hi0
      have hwp := hw.2.2.2.2 j hj
      have hS := hT.s hi0
      have hP := hT.p hj
      have h6 := hwp.1
      have hi3 : i0 < 3 := by have := hw.2.1; omega
      have hj3 : j < 3 := by have := hw.2.2.1; omega
      refine Ev.aload_n rfl rfl ?_
      refine Ev.iconst (v := 0) rfl (by decide) ?_
      refine Ev.iload_n rfl rfl ?_
      refine Ev.cV2 rfl rfl (by assumption) rfl rfl (by decide) ⟨(Nat.le_refl _), (Nat.le_refl _)⟩ (m_isOf0_yes hM hT hw hi0) ?_
      refine Ev.if_eq (tgt := 18) rfl (by decide) (fun c6 => absurd c6 (by decide)) (fun c6 => ?_)
      refine Ev.aload_n rfl rfl ?_
      refine Ev.iconst (v := 1) rfl (by decide) ?_
      refine Ev.iload_n rfl rfl ?_
      refine Ev.cV2 rfl rfl (by assumption) rfl rfl (by decide) ⟨(Nat.le_refl _), (Nat.le_refl _)⟩ (m_isOf1_yes hM hT hw hj) ?_
      refine Ev.if_ne (tgt := 20) rfl (by decide) (fun c15 => ?_) (fun c15 => absurd c15 (by decide))
      refine Ev.iconst (v := 0) rfl (by decide) ?_
      refine Ev.iload_n rfl rfl ?_
      refine Ev.cS2 rfl rfl rfl (by decide) ⟨(Nat.le_refl _), (Nat.le_refl _)⟩ (m_pl0_ok i0) ?_
      refine Ev.istore_n rfl rfl rfl ?_
      refine Ev.iconst (v := 1) rfl (by decide) ?_
      refine Ev.istore rfl rfl rfl ?_
      refine Ev.iconst (v := 0) rfl (by decide) ?_
      refine Ev.istore rfl rfl rfl ?_
      skip
      refine Ev.cg (L' := [some (.ref y), some (.int (nI i0)), some (.int (nI j)), some (.int (nI (610 + 120 * i0))), some (.int 1), some (.int (nI 0))]) ?_ (by first | rfl | simp [nI_0])
      refine lp (fun i z => Ev Γ 0 0 m_M_goes 0 0 32 [some (.ref y), some (.int (nI i0)), some (.int (nI j)), some (.int (nI (610 + 120 * i0))), some (.int z), some (.int (nI i))] [] σ Q) (F_go (tS T i0) (tP T j)) ((tP T j).1) (fun i z hi hnx => ?_) ((tP T j).1) 0 (1) (by omega) ?_
      · skip
        refine Ev.iload rfl rfl ?_
        refine Ev.aload_n rfl rfl ?_
        refine Ev.getf rfl rfl (by assumption) rfl ?_
        refine Ev.iconst (v := 1) rfl (by decide) ?_
        refine Ev.iload_n rfl rfl ?_
        refine Ev.cS2 rfl rfl rfl (by decide) ⟨(Nat.le_refl _), (Nat.le_refl _)⟩ (m_pl1_ok j) ?_
        refine Ev.ialdN (k := 970 + 40 * j) rfl (by assumption) rfl ⟨(by omega), by decide⟩ ?_
        rw [hP.1]
        refine Ev.icmp_ge (tgt := 114) rfl (by decide) (fun c44 => absurd c44 (nI_ge hi (by omega))) (fun c44 => ?_)
        refine Ev.iload rfl rfl ?_
        refine Ev.if_eq (tgt := 105) rfl (by decide) (fun c49 => ?_) (fun c49 => ?_)
        · skip
          refine Ev.iconst (v := 0) rfl (by decide) ?_
          refine Ev.istore rfl rfl rfl ?_
          refine Ev.iinc (d := 1) rfl rfl rfl (by decide) rfl ?_
          refine Ev.goto (tgt := 32) rfl (by decide) ?_
          exact hnx.cg (by first | (simp [nI_1, F_go, *]; done) | (simp [nI_1, F_go, *]; rfl))
        · skip
          refine Ev.aload_n rfl rfl ?_
          refine Ev.getf rfl rfl (by assumption) rfl ?_
          refine Ev.aload_n rfl rfl ?_
          refine Ev.iload_n rfl rfl ?_
          refine Ev.iload rfl rfl ?_
          refine Ev.cV2 rfl rfl (by assumption) rfl rfl (by decide) ⟨(Nat.le_refl _), (Nat.le_refl _)⟩ (m_classAt_ok hM i) ?_
          refine Ev.iconst (v := 1) rfl (by decide) ?_
          refine Ev.iadd rfl ?_
          refine Ev.ialdN (k := 970 + 40 * j + 1 + 6 * i + 1) rfl (by assumption) (nI_add _ 1) ⟨(by omega), by decide⟩ ?_
          rw [hP.2 i hi 1 (by decide)]
          refine Ev.aload_n rfl rfl ?_
          refine Ev.getf rfl rfl (by assumption) rfl ?_
          refine Ev.iload_n rfl rfl ?_
          refine Ev.iconst (v := 1) rfl (by decide) ?_
          refine Ev.iadd rfl ?_
          refine Ev.ialdN (k := 610 + 120 * i0 + 1) rfl (by assumption) (nI_add _ 1) ⟨(by omega), by decide⟩ ?_
          rw [hS.2.1]
          refine Ev.icmp_ge (tgt := 105) rfl (by decide) (fun c74 => ?_) (fun c74 => ?_)
          · skip
            refine Ev.iconst (v := 0) rfl (by decide) ?_
            refine Ev.istore rfl rfl rfl ?_
            refine Ev.iinc (d := 1) rfl rfl rfl (by decide) rfl ?_
            refine Ev.goto (tgt := 32) rfl (by decide) ?_
            exact hnx.cg (by first | (simp [nI_1, F_go, *]; done) | (simp [nI_1, F_go, *]; rfl))
          · skip
            refine Ev.aload_n rfl rfl ?_
            refine Ev.getf rfl rfl (by assumption) rfl ?_
            refine Ev.aload_n rfl rfl ?_
            refine Ev.iload_n rfl rfl ?_
            refine Ev.iload rfl rfl ?_
            refine Ev.cV2 rfl rfl (by assumption) rfl rfl (by decide) ⟨(Nat.le_refl _), (Nat.le_refl _)⟩ (m_classAt_ok hM i) ?_
            refine Ev.iconst (v := 5) rfl (by decide) ?_
            refine Ev.iadd rfl ?_
            refine Ev.ialdN (k := 970 + 40 * j + 1 + 6 * i + 5) rfl (by assumption) (nI_add _ 5) ⟨(by omega), by decide⟩ ?_
            rw [hP.2 i hi 5 (by decide)]
            refine Ev.aload_n rfl rfl ?_
            refine Ev.getf rfl rfl (by assumption) rfl ?_
            refine Ev.iload_n rfl rfl ?_
            refine Ev.ialdN (k := 610 + 120 * i0) rfl (by assumption) rfl ⟨(by omega), by decide⟩ ?_
            rw [hS.1]
            refine Ev.ishr rfl ?_
            refine Ev.if_ne (tgt := 105) rfl (by decide) (fun c98 => ?_) (fun c98 => ?_)
            · skip
              refine Ev.iconst (v := 0) rfl (by decide) ?_
              refine Ev.istore rfl rfl rfl ?_
              refine Ev.iinc (d := 1) rfl rfl rfl (by decide) rfl ?_
              refine Ev.goto (tgt := 32) rfl (by decide) ?_
              exact hnx.cg (by first | (simp [nI_1, F_go, *]; done) | (simp [nI_1, F_go, *]; rfl))
            · skip
              refine Ev.iconst (v := 1) rfl (by decide) ?_
              refine Ev.goto (tgt := 106) rfl (by decide) ?_
              refine Ev.istore rfl rfl rfl ?_
              refine Ev.iinc (d := 1) rfl rfl rfl (by decide) rfl ?_
              refine Ev.goto (tgt := 32) rfl (by decide) ?_
              exact hnx.cg (by first | (simp [nI_1, F_go, *]; done) | (simp [nI_1, F_go, *]; rfl))
      · skip
        refine Ev.iload rfl rfl ?_
        refine Ev.aload_n rfl rfl ?_
        refine Ev.getf rfl rfl (by assumption) rfl ?_
        refine Ev.iconst (v := 1) rfl (by decide) ?_
        refine Ev.iload_n rfl rfl ?_
        refine Ev.cS2 rfl rfl rfl (by decide) ⟨(Nat.le_refl _), (Nat.le_refl _)⟩ (m_pl1_ok j) ?_
        refine Ev.ialdN (k := 970 + 40 * j) rfl (by assumption) rfl ⟨(by omega), by decide⟩ ?_
        rw [hP.1]
        refine Ev.icmp_ge (tgt := 114) rfl (by decide) (fun c44 => ?_) (fun c44 => absurd (nI_le (Nat.le_refl _) (by omega)) c44)
        refine Ev.iload rfl rfl ?_
        refine Ev.iret (ty := .boolean) rfl rfl (nle_bool _ (go_iff hws hwp _ 0 1 (Or.inr rfl) (by omega)).1) (Nat.le_refl _) (Nat.le_refl _) ?_
        rw [← hQ]
        refine ⟨?_, rfl⟩
        obtain ⟨g1, g2⟩ := go_iff hws hwp (tP T j).1 0 1 (Or.inr rfl) (by omega)
        rcases g1 with g1 | g1
        · rw [g1]
        · exact absurd ⟨i0, j, rfl, hi0, rfl, hj, fun k hk => (g2.mp g1).2 k (Nat.zero_le _) (by omega)⟩ hg
    · skip
      refine Ev.aload_n rfl rfl ?_
      refine Ev.iconst (v := 0) rfl (by decide) ?_
      refine Ev.iload_n rfl rfl ?_
      refine Ev.cV2 rfl rfl (by assumption) rfl rfl (by decide) ⟨(Nat.le_refl _), (Nat.le_refl _)⟩ (m_isOf0_yes hM hT hw hi0) ?_
      refine Ev.if_eq (tgt := 18) rfl (by decide) (fun c6 => absurd c6 (by decide)) (fun c6 => ?_)
      refine Ev.aload_n rfl rfl ?_
      refine Ev.iconst (v := 1) rfl (by decide) ?_
      refine Ev.iload_n rfl rfl ?_
      refine Ev.cV2 rfl rfl (by assumption) rfl rfl (by decide) ⟨(Nat.le_refl _), (Nat.le_refl _)⟩ (m_isOf1_no hM hT hw (Or.inl hv)) ?_
      refine Ev.if_ne (tgt := 20) rfl (by decide) (fun c15 => absurd rfl c15) (fun c15 => ?_)
      refine Ev.iconst (v := 0) rfl (by decide) ?_
      refine Ev.iret (ty := .boolean) rfl rfl rfl (Nat.le_refl _) (Nat.le_refl _) ?_
      rw [← hQ]
      exact ⟨rfl, rfl⟩
    · skip
      refine Ev.aload_n rfl rfl ?_
      refine Ev.iconst (v := 0) rfl (by decide) ?_
      refine Ev.iload_n rfl rfl ?_
      refine Ev.cV2 rfl rfl (by assumption) rfl rfl (by decide) ⟨(Nat.le_refl _), (Nat.le_refl _)⟩ (m_isOf0_yes hM hT hw hi0) ?_
      refine Ev.if_eq (tgt := 18) rfl (by decide) (fun c6 => absurd c6 (by decide)) (fun c6 => ?_)
      refine Ev.aload_n rfl rfl ?_
      refine Ev.iconst (v := 1) rfl (by decide) ?_
      refine Ev.iload_n rfl rfl ?_
      refine Ev.cV2 rfl rfl (by assumption) rfl rfl (by decide) ⟨(Nat.le_refl _), (Nat.le_refl _)⟩ (m_isOf1_no hM hT hw (Or.inr hv)) ?_
      refine Ev.if_ne (tgt := 20) rfl (by decide) (fun c15 => absurd rfl c15) (fun c15 => ?_)
      refine Ev.iconst (v := 0) rfl (by decide) ?_
      refine Ev.iret (ty := .boolean) rfl rfl rfl (Nat.le_refl _) (Nat.le_refl _) ?_
      rw [← hQ]
      exact ⟨rfl, rfl⟩
  · skip
    refine Ev.aload_n rfl rfl ?_
    refine Ev.iconst (v := 0) rfl (by decide) ?_
    refine Ev.iload_n rfl rfl ?_
    refine Ev.cV2 rfl rfl (by assumption) rfl rfl (by decide) ⟨(Nat.le_refl _), (Nat.le_refl _)⟩ (m_isOf0_no hM hT hw (Or.inl hu)) ?_
    refine Ev.if_eq (tgt := 18) rfl (by decide) (fun c6 => ?_) (fun c6 => absurd rfl c6)
    refine Ev.iconst (v := 0) rfl (by decide) ?_
    refine Ev.iret (ty := .boolean) rfl rfl rfl (Nat.le_refl _) (Nat.le_refl _) ?_
    rw [← hQ]
    exact ⟨rfl, rfl⟩
  · skip
    refine Ev.aload_n rfl rfl ?_
    refine Ev.iconst (v := 0) rfl (by decide) ?_
    refine Ev.iload_n rfl rfl ?_
    refine Ev.cV2 rfl rfl (by assumption) rfl rfl (by decide) ⟨(Nat.le_refl _), (Nat.le_refl _)⟩ (m_isOf0_no hM hT hw (Or.inr hu)) ?_
    refine Ev.if_eq (tgt := 18) rfl (by decide) (fun c6 => ?_) (fun c6 => absurd rfl c6)
    refine Ev.iconst (v := 0) rfl (by decide) ?_
    refine Ev.iret (ty := .boolean) rfl rfl rfl (Nat.le_refl _) (Nat.le_refl _) ?_
    rw [← hQ]
    exact ⟨rfl, rfl⟩
end
end
