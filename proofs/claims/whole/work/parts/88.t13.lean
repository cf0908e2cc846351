/-! Next year: the reference. -/
noncomputable section
section
variable {Γ : ex_G} {σ : ex_S} {x q a p y : Nat} {S : Sch} {T : Tol} {P : Pln} {g A : Nat → Int32}
theorem m_next_none (hM : isM σ y g A) (hT : mT A 0 T) (hw : wT T) {u v : Int32} (hg : ¬ ∃ i j, gd T u v i j) (w : Int32) : RetV Γ m_M_next [.ref y, .int u, .int v, .int w] σ (.int (-1)) := by
  obtain ⟨m0, m1⟩ := id hM
  unfold RetV
  generalize hQ : (fun (r : Option Value) (σ' : ex_S) => r = some ((.int (-1)) : Value) ∧ σ' = σ) = Q
  refine Ret.start pm_247 rfl ?_
  refine Ev.aload_n rfl rfl ?_
  refine Ev.iload_n rfl rfl ?_
  refine Ev.iload_n rfl rfl ?_
  refine Ev.cV2 rfl rfl (by assumption) rfl rfl (by decide) ⟨(Nat.le_refl _), (Nat.le_refl _)⟩ (m_goes_no hM hT hw hg) ?_
  refine Ev.if_eq (tgt := 18) rfl (by decide) (fun c6 => ?_) (fun c6 => absurd rfl c6)
  refine Ev.iconst (v := (-1)) rfl (by decide) ?_
  refine Ev.iret (ty := .int) rfl rfl rfl (Nat.le_refl _) (Nat.le_refl _) ?_
  rw [← hQ]
  exact ⟨rfl, rfl⟩
theorem m_next_np (hM : isM σ y g A) (hT : mT A 0 T) (hw : wT T) {u v : Int32} {i j : Nat} (hg : gd T u v i j) {w : Int32} (hp : plx w (tSn T)) : RetV Γ m_M_next [.ref y, .int u, .int v, .int w] σ (.int (-1)) := by
  obtain ⟨m0, m1⟩ := id hM
  unfold RetV
  generalize hQ : (fun (r : Option Value) (σ' : ex_S) => r = some ((.int (-1)) : Value) ∧ σ' = σ) = Q
  refine Ret.start pm_247 rfl ?_
  refine Ev.aload_n rfl rfl ?_
  refine Ev.iload_n rfl rfl ?_
  refine Ev.iload_n rfl rfl ?_
  refine Ev.cV2 rfl rfl (by assumption) rfl rfl (by decide) ⟨(Nat.le_refl _), (Nat.le_refl _)⟩ (m_goes_yes hM hT hw hg) ?_
  refine Ev.if_eq (tgt := 18) rfl (by decide) (fun c6 => absurd c6 (by decide)) (fun c6 => ?_)
  refine Ev.aload_n rfl rfl ?_
  refine Ev.iconst (v := 0) rfl (by decide) ?_
  refine Ev.iload_n rfl rfl ?_
  refine Ev.cV2 rfl rfl (by assumption) rfl rfl (by decide) ⟨(Nat.le_refl _), (Nat.le_refl _)⟩ (m_free_no hM hT hw hp) ?_
  refine Ev.if_ne (tgt := 20) rfl (by decide) (fun c15 => absurd rfl c15) (fun c15 => ?_)
  refine Ev.iconst (v := (-1)) rfl (by decide) ?_
  refine Ev.iret (ty := .int) rfl rfl rfl (Nat.le_refl _) (Nat.le_refl _) ?_
  rw [← hQ]
  exact ⟨rfl, rfl⟩
def cnt (T : Tol) (n : Nat) : Nat := if tSn T < n + 1 then n + 1 else tSn T
/-- the number of schools, told anew -/
theorem m_keeps_ok (m0 : σ.2 y = some (.inr (.inr (10, mo y g)))) (m1 : σ.2 (y + 1) = some (.inl (0, 4500, A))) (a0 : A 0 = nI (tSn T)) (hc : tSn T ≤ 3) {w : Int32} {n : Nat} (hp : plc w (tSn T) n) : RetX Γ m_M_keeps [.ref y, .int 0, .int w] σ (y + 1) (y + 2) (some (.int (nI n))) (fun τ => ∃ A2, τ.2 (y + 1) = some (.inl (0, 4500, A2)) ∧ A2 0 = nI (cnt T n) ∧ ∀ q, q ≠ 0 → A2 q = A q) := by
  unfold RetX
  generalize hQ : (fun (r : Option Value) (τ : ex_S) => r = some (.int (nI n)) ∧ frm σ τ (y + 1) (y + 2) ∧ (fun τ : ex_S => ∃ A2, τ.2 (y + 1) = some (.inl (0, 4500, A2)) ∧ A2 0 = nI (cnt T n) ∧ ∀ q, q ≠ 0 → A2 q = A q) τ) = Q
  refine Ret.start pm_189 rfl ?_
  rcases hp with ⟨rfl, h3, rfl⟩ | ⟨rfl, h3⟩
  · refine Ev.iload_n rfl rfl ?_
    refine Ev.iconst (v := (-1)) rfl (by decide) ?_
    refine Ev.icmp_eq (tgt := 7) rfl (by decide) (fun c2 => ?_) (fun c2 => absurd rfl c2)
    refine Ev.aload_n rfl rfl ?_
    refine Ev.getf rfl rfl m0 rfl ?_
    refine Ev.iload_n rfl rfl ?_
    refine Ev.dup2 rfl rfl rfl ?_
    refine Ev.ialdN (k := 0) rfl m1 rfl ⟨(by decide), by decide⟩ ?_
    refine Ev.iconst (v := 1) rfl (by decide) ?_
    refine Ev.iadd rfl ?_
    have e1 : A 0 + (1 : Int32) = nI (tSn T + 1) := by rw [a0]; exact nq_add (a := tSn T) (b := 1) rfl rfl
    rw [e1]
    refine Ev.iastE (k := 0) rfl m1 rfl ⟨(by decide), by decide⟩ (fun τ1 f1 q1 => ?_)
    have m0' := frm.cell f1 m0 (by omega)
    refine Ev.aload_n rfl rfl ?_
    refine Ev.getf rfl rfl m0' rfl ?_
    refine Ev.iload_n rfl rfl ?_
    refine Ev.ialdN (k := 0) rfl q1 rfl ⟨(by decide), by decide⟩ ?_
    rw [show upd A 0 (nI (tSn T + 1)) 0 = nI (tSn T + 1) from pk_us]
    refine Ev.iconst (v := 1) rfl (by decide) ?_
    refine Ev.isub rfl ?_
    have e2 : nI (tSn T + 1) - (1 : Int32) = nI (tSn T) := nq_sub (a := tSn T + 1) (b := 1) rfl rfl (by omega)
    rw [e2]
    refine Ev.iret (ty := .int) rfl rfl rfl (Nat.le_refl _) (Nat.le_refl _) ?_
    rw [← hQ]
    refine ⟨rfl, f1.mono (by omega) (by omega), _, q1, ?_, fun q hq => pk_un hq⟩
    unfold cnt
    rw [if_pos (by omega)]
    exact pk_us
  · refine Ev.iload_n rfl rfl ?_
    refine Ev.iconst (v := (-1)) rfl (by decide) ?_
    refine Ev.icmp_eq (tgt := 7) rfl (by decide) (fun c2 => absurd c2 (nI_m1 (by omega))) (fun c2 => ?_)
    refine Ev.iload_n rfl rfl ?_
    refine Ev.iret (ty := .int) rfl rfl rfl (Nat.le_refl _) (Nat.le_refl _) ?_
    rw [← hQ]
    refine ⟨rfl, frm.rf, _, m1, ?_, fun q hq => rfl⟩
    unfold cnt
    rw [if_neg (by omega)]
    exact a0
/-- a school kept: the picture of the reference's array -/
theorem put_mT {A A2 : Nat → Int32} {T : Tol} {S' : Sch} {n : Nat} (h : mT A 0 T) (hw : wT T) (h0 : A2 0 = nI (cnt T n)) (hA : ∀ q, q ≠ 0 → q < 4360 → A2 q = A q) (hS : mS A2 4360 S') (hS' : wS S') (hn : n < 3) (hnc : n ≤ tSn T) : mT (K_m_copies 4360 (610 + 120 * n) A2) 0 (K_putS T n S') := by
  obtain ⟨a, b, c, d, f, g, i, j⟩ := h
  have hw1 := hw.2.1
  have hw2 := hw.2.2.1
  have hE : ∀ q, q ≠ 0 → q < 610 + 120 * n ∨ 610 + 120 * n + 120 ≤ q → q < 4360 → K_m_copies 4360 (610 + 120 * n) A2 q = A q := fun q h1 h2 h3 => by
    rw [copies_at (by omega), if_neg (by omega)]
    exact hA q h1 h3
  refine ⟨by rw [copies_at (by omega), if_neg (by omega)]; exact h0, (hE _ (by omega) (by omega) (by omega)).trans b, (hE _ (by omega) (by omega) (by omega)).trans c, (hE _ (by omega) (by omega) (by omega)).trans d, (hE _ (by omega) (by omega) (by omega)).trans f, fun k hk => (hE _ (by omega) (by omega) (by omega)).trans (g k hk), fun k hk => ?_, fun k hk => ?_⟩
  · show mS _ (0 + 610 + 120 * k) (if k = n then S' else tS T k)
    by_cases e : k = n
    · subst e
      rw [if_pos rfl]
      exact hS.mv hS'.1 hS'.2.1 (fun q hq => by rw [copies_at (by omega), if_pos (by omega), show 4360 + (0 + 610 + 120 * k + q - (610 + 120 * k)) = 4360 + q by omega])
    · rw [if_neg e]
      have hk1 : k < cnt T n := hk
      have hk' : k < tSn T := by
        unfold cnt at hk1
        by_cases c1 : tSn T < n + 1
        · rw [if_pos c1] at hk1; omega
        · rw [if_neg c1] at hk1; exact hk1
      exact (i k hk').mv (hw.2.2.2.1 k hk').1 (hw.2.2.2.1 k hk').2.1 (fun q hq => hE _ (by omega) (by omega) (by omega))
  · have hk' : k < tPn T := hk
    exact (j k hk').mv (hw.2.2.2.2 k hk').1 (fun q hq => hE _ (by omega) (by omega) (by omega))
theorem put_wT {T : Tol} {S' : Sch} {n : Nat} (hw : wT T) (hS' : wS S') (hn : n < 3) (hnc : n ≤ tSn T) : wT (K_putS T n S') := by
  refine ⟨hw.1, ?_, hw.2.2.1, fun k hk => ?_, hw.2.2.2.2⟩
  · show cnt T n ≤ 3
    have := hw.2.1
    unfold cnt
    by_cases c1 : tSn T < n + 1
    · rw [if_pos c1]; omega
    · rw [if_neg c1]; exact this
  · show wS (if k = n then S' else tS T k)
    by_cases e : k = n
    · rw [if_pos e]; exact hS'
    · rw [if_neg e]
      have hk1 : k < cnt T n := hk
      unfold cnt at hk1
      by_cases c1 : tSn T < n + 1
      · rw [if_pos c1] at hk1; exact hw.2.2.2.1 k (by omega)
      · rw [if_neg c1] at hk1; exact hw.2.2.2.1 k hk1
theorem m_next_some (hM0 : isM σ y g A) (hT : mT A 0 T) (hw : wT T) {v_row : Nat → Int32} (m_row : σ.2 (y + 9) = some (.inl (0, 16, v_row))) {u v : Int32} {i j : Nat} (hg : gd T u v i j) {w : Int32} {n : Nat} (hp : plc w (tSn T) n) : RetX Γ m_M_next [(.ref y), .int u, .int v, .int w] σ (y + 1) (y + 17) (some (.int (nI n))) (fun τ => (∃ A2, τ.2 (y + 1) = some (.inl (0, 4500, A2)) ∧ (∀ q, 1090 ≤ q → q < 4360 → A2 q = A q) ∧ mT A2 0 (K_putS T n (S_nx (tS T i) (tP T j)))) ∧ wT (K_putS T n (S_nx (tS T i) (tP T j))) ∧ (∃ f, τ.2 (y + 9) = some (.inl (0, 16, f))) ∧ (∀ q, q ≠ y + 1 → q ≠ y + 9 → τ.2 q = σ.2 q)) := by
  obtain ⟨m00, m1⟩ := id hM0
  have hgd := hg
  obtain ⟨rfl, hi, rfl, hj, hgo⟩ := hg
  have hc := hw.2.1
  have hi3 : i < 3 := by omega
  have hj3 : j < 3 := by have := hw.2.2.1; omega
  have hwS := hw.2.2.2.1 i hi
  have hwP := hw.2.2.2.2 j hj
  have hn16 := hwS.1
  have hn5 := hwS.2.1
  have h6 := hwP.1
  have hS := hT.s hi
  have hP := hT.p hj
  obtain ⟨hn3, hnc⟩ := hp.lt hc
  unfold RetX
  generalize hQ : (fun (r : Option Value) (τ : ex_S) => r = some (.int (nI n)) ∧ frm σ τ (y + 1) (y + 17) ∧ (fun τ : ex_S => (∃ A2, τ.2 (y + 1) = some (.inl (0, 4500, A2)) ∧ (∀ q, 1090 ≤ q → q < 4360 → A2 q = A q) ∧ mT A2 0 (K_putS T n (S_nx (tS T i) (tP T j)))) ∧ wT (K_putS T n (S_nx (tS T i) (tP T j))) ∧ (∃ f, τ.2 (y + 9) = some (.inl (0, 16, f))) ∧ (∀ q, q ≠ y + 1 → q ≠ y + 9 → τ.2 q = σ.2 q)) τ) = Q
  refine Ret.start pm_247 rfl ?_
  have m0 := m00
  have fr : frm σ σ (y + 1) (y + 17) := frm.rf
  have kp : (∀ q, q ≠ y + 1 → q ≠ y + 9 → σ.2 q = σ.2 q) := fun _ _ _ => rfl
  refine Ev.aload_n rfl rfl ?_
  refine Ev.iload_n rfl rfl ?_
  refine Ev.iload_n rfl rfl ?_
  refine Ev.cV2 rfl rfl m0 rfl rfl (by decide) ⟨(Nat.le_refl _), (Nat.le_refl _)⟩ (m_goes_yes hM0 hT hw hgd) ?_
  refine Ev.if_eq (tgt := 18) rfl (by decide) (fun c6 => absurd c6 (by decide)) (fun c6 => ?_)
  refine Ev.aload_n rfl rfl ?_
  refine Ev.iconst (v := 0) rfl (by decide) ?_
  refine Ev.iload_n rfl rfl ?_
  refine Ev.cV2 rfl rfl m0 rfl rfl (by decide) ⟨(Nat.le_refl _), (Nat.le_refl _)⟩ (m_free_yes hM0 hT hw hp) ?_
  refine Ev.if_ne (tgt := 20) rfl (by decide) (fun c15 => ?_) (fun c15 => absurd c15 (by decide))
  refine Ev.aload_n rfl rfl ?_
  refine Ev.iconst (v := 0) rfl (by decide) ?_
  refine Ev.iload_n rfl rfl ?_
  refine Ev.cS2 rfl rfl rfl (by decide) ⟨(Nat.le_refl _), (Nat.le_refl _)⟩ (m_pl0_ok i) ?_
  refine Ev.sipush (v := 4360) rfl (by decide) ?_
  refine Ev.xV2u rfl rfl m0 rfl rfl (by decide) ⟨(Nat.le_refl _), (Nat.le_refl _)⟩ (m_copies_ok (s := 610 + 120 * i) (t := 4360) hM0 (by omega) (by omega)) (fun τ1 f1 q1 => ?_)
  have hTr : (isTr τ1 y A (tS T i) ((tS T i).2.2 0) ∧ wS (S_st (tS T i) ((tS T i).2.2 0))) := ⟨cp_tr hS hwS (by omega) q1, by rw [S_st_self]; exact hwS⟩
  have m_row := frm.cell f1 m_row (by omega)
  have kp : (∀ q, q ≠ y + 1 → q ≠ y + 9 → τ1.2 q = σ.2 q) := fun q n0 n1 => (f1.2 q (by omega)).trans (kp q n0 n1)
  have fr := fr.step f1 (by omega) (by omega)
  have m0 := frm.cell fr m00 (by omega)
  obtain ⟨-, hwf⟩ := id hTr
  refine Ev.aload_n rfl rfl ?_
  refine Ev.sipush (v := 4360) rfl (by decide) ?_
  refine Ev.iload_n rfl rfl ?_
  refine Ev.xV2u rfl rfl m0 rfl rfl (by decide) ⟨(Nat.le_refl _), (Nat.le_refl _)⟩ (m_year_ok m0 hTr.1 m_row hwf hP hj3 hwP hgo hn16 hn5) (fun τ2 f1 q1 => ?_)
  obtain ⟨hTr, m_row, k1⟩ := q1
  have hwf := wS_yr (P := tP T j) hwf hwS.1 v_row
  have kp : (∀ q, q ≠ y + 1 → q ≠ y + 9 → τ2.2 q = σ.2 q) := fun q n0 n1 => (k1 q (by omega) (by omega)).trans (kp q n0 n1)
  have fr := fr.step f1 (by omega) (by omega)
  have m0 := frm.cell fr m00 (by omega)
  have eS : S_st (tS T i) ((K_m_year (tS T i) (tP T j) ((tS T i).2.2 0) v_row).1) = S_nx (tS T i) (tP T j) := by
    unfold S_nx
    rw [← year_eq (tS T i) (tP T j) ((tS T i).2.2 0) v_row hn16, S_st_self]
  rw [eS] at hwf
  obtain ⟨A1, m1, hA1, hS1⟩ := id hTr
  rw [eS] at hS1
  refine Ev.aload_n rfl rfl ?_
  refine Ev.iconst (v := 0) rfl (by decide) ?_
  refine Ev.iload_n rfl rfl ?_
  refine Ev.xV2 rfl rfl m0 rfl rfl (by decide) ⟨(Nat.le_refl _), (Nat.le_refl _)⟩ (m_keeps_ok m0 m1 ((hA1 0 (by omega)).trans hT.1) hc hp) (fun τ3 f1 q1 => ?_)
  obtain ⟨A2, m1, b0, hA2⟩ := q1
  have m_row := frm.cell f1 m_row (by omega)
  have kp : (∀ q, q ≠ y + 1 → q ≠ y + 9 → τ3.2 q = σ.2 q) := fun q n0 n1 => (f1.2 q (by omega)).trans (kp q n0 n1)
  have fr := fr.step f1 (by omega) (by omega)
  have m0 := frm.cell fr m00 (by omega)
  refine Ev.istore rfl rfl rfl ?_
  refine Ev.aload_n rfl rfl ?_
  refine Ev.sipush (v := 4360) rfl (by decide) ?_
  refine Ev.iconst (v := 0) rfl (by decide) ?_
  refine Ev.iload rfl rfl ?_
  refine Ev.cS2 rfl rfl rfl (by decide) ⟨(Nat.le_refl _), (Nat.le_refl _)⟩ (m_pl0_ok n) ?_
  refine Ev.xV2u rfl rfl m0 rfl rfl (by decide) ⟨(Nat.le_refl _), (Nat.le_refl _)⟩ (m_copies_ok (s := 4360) (t := 610 + 120 * n) ⟨m0, m1⟩ (by omega) (by omega)) (fun τ4 f1 q1 => ?_)
  have m_row := frm.cell f1 m_row (by omega)
  have kp : (∀ q, q ≠ y + 1 → q ≠ y + 9 → τ4.2 q = σ.2 q) := fun q n0 n1 => (f1.2 q (by omega)).trans (kp q n0 n1)
  have fr := fr.step f1 (by omega) (by omega)
  refine Ev.iload rfl rfl ?_
  refine Ev.iret (ty := .int) rfl rfl rfl (Nat.le_refl _) (Nat.le_refl _) ?_
  rw [← hQ]
  have hS2 : mS A2 4360 (S_nx (tS T i) (tP T j)) := hS1.mv hwf.1 hwf.2.1 (fun k hk => hA2 _ (by omega))
  refine ⟨rfl, fr, ⟨_, q1, fun q h1 h2 => ?_, put_mT hT hw b0 (fun q h1 h2 => (hA2 q h1).trans (hA1 q h2)) hS2 hwf hn3 hnc⟩, put_wT hw hwf hn3 hnc, ⟨_, m_row⟩, kp⟩
  rw [copies_at (by omega), if_neg (by omega)]
  exact (hA2 q (by omega)).trans (hA1 q h2)
end
end
