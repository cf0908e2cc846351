/-! Printed by sym.py: order and shift of the reference; what the bytes of a number are; feed. -/
noncomputable section
section
variable {Γ : ex_G} {σ : ex_S} {x q a p y : Nat} {S : Sch} {T : Tol} {P : Pln} {g A : Nat → Int32}
variable {v_row : Nat → Int32}
theorem tr_trans {τ : ex_S} {y : Nat} {A A1 : Nat → Int32} {S : Sch} {f : Nat → Int32} (h : ∀ q, q < 4360 → A1 q = A q) (h2 : isTr τ y A1 S f) : isTr τ y A S f := by
  obtain ⟨A2, a, b, c⟩ := h2
  exact ⟨A2, a, fun q hq => (b q hq).trans (h q hq), c⟩
def K_m_order (T : Tol) (i j j2 : Nat) (v_row : Nat → Int32) : Int32 × (Nat → Int32) × (Nat → Int32) := if ((K_m_both (tS T i) (tP T j2) (tP T j) ((K_m_both (tS T i) (tP T j) (tP T j2) v_row).2.2)).1) < ((K_m_both (tS T i) (tP T j) (tP T j2) v_row).1) then ((0 : Int32), (K_m_both (tS T i) (tP T j2) (tP T j) ((K_m_both (tS T i) (tP T j) (tP T j2) v_row).2.2)).2.1, (K_m_both (tS T i) (tP T j2) (tP T j) ((K_m_both (tS T i) (tP T j) (tP T j2) v_row).2.2)).2.2) else (if ((K_m_both (tS T i) (tP T j) (tP T j2) v_row).1) < ((K_m_both (tS T i) (tP T j2) (tP T j) ((K_m_both (tS T i) (tP T j) (tP T j2) v_row).2.2)).1) then ((1 : Int32), (K_m_both (tS T i) (tP T j2) (tP T j) ((K_m_both (tS T i) (tP T j) (tP T j2) v_row).2.2)).2.1, (K_m_both (tS T i) (tP T j2) (tP T j) ((K_m_both (tS T i) (tP T j) (tP T j2) v_row).2.2)).2.2) else ((2 : Int32), (K_m_both (tS T i) (tP T j2) (tP T j) ((K_m_both (tS T i) (tP T j) (tP T j2) v_row).2.2)).2.1, (K_m_both (tS T i) (tP T j2) (tP T j) ((K_m_both (tS T i) (tP T j) (tP T j2) v_row).2.2)).2.2))
theorem m_order_some (hM0 : isM σ y g A) (hT : mT A 0 T) (hw : wT T) (m_row : σ.2 (y + 9) = some (.inl (0, 16, v_row))) {u v v2 : Int32} {i j j2 : Nat} (hg : gd T u v i j) (hg2 : gd T u v2 i j2) : RetX Γ m_M_order [(.ref y), .int u, .int v, .int v2] σ (y + 1) (y + 17) (some (.int ((K_m_order T i j j2 v_row).1))) (fun τ => (isTr τ y A (tS T i) ((K_m_order T i j j2 v_row).2.1) ∧ wS (S_st (tS T i) ((K_m_order T i j j2 v_row).2.1))) ∧ τ.2 (y + 9) = some (.inl (0, 16, (K_m_order T i j j2 v_row).2.2)) ∧ (∀ q, q ≠ y + 1 → q ≠ y + 9 → τ.2 q = σ.2 q)) := by
  obtain ⟨m00, hTr⟩ := id hM0
  have hgd2 := hg2
  have hgd := hg
  obtain ⟨rfl, hi, rfl, hj, hgo⟩ := hg
  obtain ⟨e0, -, rfl, hj2, hgo2⟩ := hg2
  have hi3 : i < 3 := by have := hw.2.1; omega
  have hj3 : j < 3 := by have := hw.2.2.1; omega
  have hwS := hw.2.2.2.1 i hi
  have hwP := hw.2.2.2.2 j hj
  have hn16 := hwS.1
  have hn5 := hwS.2.1
  have h6 := hwP.1
  have hS0 := hT.s hi
  have hP0 := hT.p hj
  have hs : 610 + 120 * i + 120 ≤ 4500 := by omega
  have hwP2 := hw.2.2.2.2 j2 hj2
  have h62 := hwP2.1
  have hj23 : j2 < 3 := by have := hw.2.2.1; omega
  have hP20 := hT.p hj2
  unfold RetX
  generalize hQ : (fun (r : Option Value) (τ : ex_S) => r = some (.int ((K_m_order T i j j2 v_row).1)) ∧ frm σ τ (y + 1) (y + 17) ∧ (fun τ : ex_S => (isTr τ y A (tS T i) ((K_m_order T i j j2 v_row).2.1) ∧ wS (S_st (tS T i) ((K_m_order T i j j2 v_row).2.1))) ∧ τ.2 (y + 9) = some (.inl (0, 16, (K_m_order T i j j2 v_row).2.2)) ∧ (∀ q, q ≠ y + 1 → q ≠ y + 9 → τ.2 q = σ.2 q)) τ) = Q
  refine Ret.start pm_262 rfl ?_
  have fr : frm σ σ (y + 1) (y + 17) := frm.rf
  have kp : (∀ q, q ≠ y + 1 → q ≠ y + 9 → σ.2 q = σ.2 q) := fun _ _ _ => rfl
  have m0 := frm.cell fr m00 (by omega)
  have m1 := hTr
  have hM : isM _ y _ A := ⟨m0, m1⟩
  have hS := hS0
  have hP := hP0
  have hP2 := hP20
  refine Ev.aload_n rfl rfl ?_
  refine Ev.iload_n rfl rfl ?_
  refine Ev.iload_n rfl rfl ?_
  refine Ev.cV2 rfl rfl m0 rfl rfl (by decide) ⟨(Nat.le_refl _), (Nat.le_refl _)⟩ (m_goes_yes hM hT hw hgd) ?_
  refine Ev.zeq (tgt := 18) rfl (by decide) (fun c6 => absurd c6 (by decide)) (fun c6 => ?_)
  refine Ev.aload_n rfl rfl ?_
  refine Ev.iload_n rfl rfl ?_
  refine Ev.iload_n rfl rfl ?_
  refine Ev.cV2 rfl rfl m0 rfl rfl (by decide) ⟨(Nat.le_refl _), (Nat.le_refl _)⟩ (m_goes_yes hM hT hw hgd2) ?_
  refine Ev.zne (tgt := 20) rfl (by decide) (fun c15 => ?_) (fun c15 => absurd c15 (by decide))
  refine Ev.aload_n rfl rfl ?_
  refine Ev.iconst (v := 0) rfl (by decide) ?_
  refine Ev.iload_n rfl rfl ?_
  refine Ev.cS2 rfl rfl rfl (by decide) ⟨(Nat.le_refl _), (Nat.le_refl _)⟩ (m_pl0_ok i) ?_
  refine Ev.iload_n rfl rfl ?_
  refine Ev.iload_n rfl rfl ?_
  refine Ev.xV3 rfl rfl m0 rfl rfl (by decide) ⟨(Nat.le_refl _), (Nat.le_refl _)⟩ (m_both_ok hM m_row hS (by omega) hwS hP hj3 hwP hgo hP2 hj23 hwP2 hgo2) (fun τ1 f1 q1 => ?_)
  obtain ⟨hTr, m_row, k1⟩ := q1
  have hTr : (isTr τ1 y A (tS T i) ((K_m_both (tS T i) (tP T j) (tP T j2) v_row).2.1) ∧ wS (S_st (tS T i) ((K_m_both (tS T i) (tP T j) (tP T j2) v_row).2.1))) := hTr
  have kp : (∀ q, q ≠ y + 1 → q ≠ y + 9 → τ1.2 q = σ.2 q) := fun q n0 n1 => (k1 q (by omega) (by omega)).trans (kp q n0 n1)
  have fr := fr.step f1 (by omega) (by omega)
  have m0 := frm.cell fr m00 (by omega)
  obtain ⟨⟨A1, m1, hA1, hS1⟩, hwf⟩ := id hTr
  have hM : isM _ y _ A1 := ⟨m0, m1⟩
  have hS : mS A1 (610 + 120 * i) (tS T i) := hS0.mv hn16 hn5 (fun k hk => hA1 _ (by omega))
  have hP : mP A1 (970 + 40 * j) (tP T j) := hP0.mv h6 (fun k hk => hA1 _ (by omega))
  have hP2 : mP A1 (970 + 40 * j2) (tP T j2) := hP20.mv h62 (fun k hk => hA1 _ (by omega))
  refine Ev.istore rfl rfl rfl ?_
  refine Ev.aload_n rfl rfl ?_
  refine Ev.iconst (v := 0) rfl (by decide) ?_
  refine Ev.iload_n rfl rfl ?_
  refine Ev.cS2 rfl rfl rfl (by decide) ⟨(Nat.le_refl _), (Nat.le_refl _)⟩ (m_pl0_ok i) ?_
  refine Ev.iload_n rfl rfl ?_
  refine Ev.iload_n rfl rfl ?_
  refine Ev.xV3 rfl rfl m0 rfl rfl (by decide) ⟨(Nat.le_refl _), (Nat.le_refl _)⟩ (m_both_ok hM m_row hS (by omega) hwS hP2 hj23 hwP2 hgo2 hP hj3 hwP hgo) (fun τ2 f1 q1 => ?_)
  obtain ⟨hTr, m_row, k1⟩ := q1
  have hTr : (isTr τ2 y A (tS T i) ((K_m_both (tS T i) (tP T j2) (tP T j) ((K_m_both (tS T i) (tP T j) (tP T j2) v_row).2.2)).2.1) ∧ wS (S_st (tS T i) ((K_m_both (tS T i) (tP T j2) (tP T j) ((K_m_both (tS T i) (tP T j) (tP T j2) v_row).2.2)).2.1))) := ⟨tr_trans hA1 hTr.1, hTr.2⟩
  have kp : (∀ q, q ≠ y + 1 → q ≠ y + 9 → τ2.2 q = σ.2 q) := fun q n0 n1 => (k1 q (by omega) (by omega)).trans (kp q n0 n1)
  have fr := fr.step f1 (by omega) (by omega)
  have m0 := frm.cell fr m00 (by omega)
  obtain ⟨⟨A1, m1, hA1, hS1⟩, hwf⟩ := id hTr
  have hM : isM _ y _ A1 := ⟨m0, m1⟩
  have hS : mS A1 (610 + 120 * i) (tS T i) := hS0.mv hn16 hn5 (fun k hk => hA1 _ (by omega))
  have hP : mP A1 (970 + 40 * j) (tP T j) := hP0.mv h6 (fun k hk => hA1 _ (by omega))
  have hP2 : mP A1 (970 + 40 * j2) (tP T j2) := hP20.mv h62 (fun k hk => hA1 _ (by omega))
  refine Ev.istore rfl rfl rfl ?_
  refine Ev.iload rfl rfl ?_
  refine Ev.iload rfl rfl ?_
  refine Ev.jle (tgt := 57) rfl (by decide) (fun c50 => ?_) (fun c50 => ?_)
  · skip
    refine Ev.iload rfl rfl ?_
    refine Ev.iload rfl rfl ?_
    refine Ev.jge (tgt := 68) rfl (by decide) (fun c61 => ?_) (fun c61 => ?_)
    · skip
      refine Ev.iconst (v := 2) rfl (by decide) ?_
      refine Ev.iret (ty := .int) rfl rfl rfl (Nat.le_refl _) (Nat.le_refl _) ?_
      have hK : (K_m_order T i j j2 v_row) = ((2 : Int32), (K_m_both (tS T i) (tP T j2) (tP T j) ((K_m_both (tS T i) (tP T j) (tP T j2) v_row).2.2)).2.1, (K_m_both (tS T i) (tP T j2) (tP T j) ((K_m_both (tS T i) (tP T j) (tP T j2) v_row).2.2)).2.2) := by
        unfold K_m_order
        rw [if_neg c50]
        rw [if_neg c61]
      rw [← hQ]
      dsimp only
      rw [hK]
      exact ⟨rfl, fr, hTr, m_row, kp⟩
    · skip
      refine Ev.iconst (v := 1) rfl (by decide) ?_
      refine Ev.goto (tgt := 69) rfl (by decide) ?_
      refine Ev.iret (ty := .int) rfl rfl rfl (Nat.le_refl _) (Nat.le_refl _) ?_
      have hK : (K_m_order T i j j2 v_row) = ((1 : Int32), (K_m_both (tS T i) (tP T j2) (tP T j) ((K_m_both (tS T i) (tP T j) (tP T j2) v_row).2.2)).2.1, (K_m_both (tS T i) (tP T j2) (tP T j) ((K_m_both (tS T i) (tP T j) (tP T j2) v_row).2.2)).2.2) := by
        unfold K_m_order
        rw [if_neg c50]
        rw [if_pos c61]
      rw [← hQ]
      dsimp only
      rw [hK]
      exact ⟨rfl, fr, hTr, m_row, kp⟩
  · skip
    refine Ev.iconst (v := 0) rfl (by decide) ?_
    refine Ev.goto (tgt := 69) rfl (by decide) ?_
    refine Ev.iret (ty := .int) rfl rfl rfl (Nat.le_refl _) (Nat.le_refl _) ?_
    have hK : (K_m_order T i j j2 v_row) = ((0 : Int32), (K_m_both (tS T i) (tP T j2) (tP T j) ((K_m_both (tS T i) (tP T j) (tP T j2) v_row).2.2)).2.1, (K_m_both (tS T i) (tP T j2) (tP T j) ((K_m_both (tS T i) (tP T j) (tP T j2) v_row).2.2)).2.2) := by
      unfold K_m_order
      rw [if_pos c50]
    rw [← hQ]
    dsimp only
    rw [hK]
    exact ⟨rfl, fr, hTr, m_row, kp⟩
theorem upd_upd (A : Nat → Int32) (k : Nat) (u v : Int32) : upd (upd A k u) k v = upd A k v := by
  funext q
  by_cases e : q = k
  · subst e; rw [pk_us, pk_us]
  · rw [pk_un e, pk_un e, pk_un e]
theorem upd_same (A : Nat → Int32) (k : Nat) : upd A k (A k) = A := by
  funext q
  by_cases e : q = k
  · subst e; rw [pk_us]
  · rw [pk_un e]
theorem wL_set3 {C : Les} (h : wL C) {v : Int32} (hv : rg v 0 11) : wL (L_set C 3 v) := ⟨h.1, h.2.1, h.2.2.1, hv, h.2.2.2.2⟩
theorem mL_upd3 {A : Nat → Int32} {c : Nat} {C : Les} (h : mL A c C) (v : Int32) : mL (upd A (c + 3) v) c (L_set C 3 v) := by
  intro k hk
  by_cases e : k = 3
  · subst e
    rw [pk_us]
    rfl
  · rw [pk_un (by omega), h k hk]
    exact (if_neg e).symm
theorem mS_upd {A : Nat → Int32} {s q : Nat} {S : Sch} (h : mS A s S) (h1 : S.1 ≤ 16) (h2 : S.2.1 ≤ 5) (hq : s + 120 ≤ q) (v : Int32) : mS (upd A q v) s S := h.mv h1 h2 (fun k hk => pk_un (by omega))
theorem rg_12 {k : Nat} (h : k < 12) : rg (nI k) 0 11 := rg_nI (by omega) (by omega) (by omega)
theorem goT_set3 {S : Sch} {C : Les} {v : Int32} (h : goT S C) : goT S (L_set C 3 v) := h
theorem mP_upd3 {A : Nat → Int32} {p k0 : Nat} {P : Pln} (h : mP A p P) (hk : k0 < P.1) (v : Int32) : mP (upd A (p + 1 + 6 * k0 + 3) v) p (P_set P k0 (L_set (P.2 k0) 3 v)) := by
  refine ⟨by rw [pk_un (by omega)]; exact h.1, fun k hk2 => ?_⟩
  have hk2 : k < P.1 := hk2
  by_cases e : k = k0
  · subst e
    rw [show (P_set P k (L_set (P.2 k) 3 v)).2 k = L_set (P.2 k) 3 v from if_pos rfl]
    exact mL_upd3 (h.2 k hk) v
  · rw [show (P_set P k0 (L_set (P.2 k0) 3 v)).2 k = P.2 k from if_neg e]
    intro f hf
    rw [pk_un (by omega)]
    exact h.2 k hk2 f hf
theorem sits_upd3 {p k0 : Nat} {v : Int32} {τ : ex_S} (hM : isM τ y g (upd A (970 + 40 * p + 1 + 6 * k0 + 3) v)) (hP : mP A (970 + 40 * p) P) (hp : p < 3) (h6 : P.1 ≤ 6) (hk : k0 < P.1) : RetV Γ m_M_sitsIn [.ref y, .int (nI p), .int (nI k0)] τ (.int (P.2 k0 5)) := by
  have h := m_sitsIn_ok (Γ := Γ) hM (mP_upd3 hP hk v) hp h6 k0 hk
  rw [show (P_set P k0 (L_set (P.2 k0) 3 v)).2 k0 5 = P.2 k0 5 from by rw [show (P_set P k0 (L_set (P.2 k0) 3 v)).2 k0 = L_set (P.2 k0) 3 v from if_pos rfl]; rfl] at h
  exact h
def F_m_shift_47 (T : Tol) (i j k0 : Nat) : Nat → (Int32 × Int32 × Int32) → (Int32 × Int32 × Int32) := fun k z => if z.2.1 < (K_tog (tS T i) (L_set ((tP T j).2 k0) 3 (nI k)) ((tP T j).2 k0 5)) then (nI k, K_tog (tS T i) (L_set ((tP T j).2 k0) 3 (nI k)) ((tP T j).2 k0 5), nI k) else (z.1, z.2.1, nI k)
def K_m_shift (T : Tol) (i j k0 : Nat) : Int32 × Int32 := ((fo (F_m_shift_47 T i j k0) (12) 0 ((0 : Int32), (-1 : Int32), ((tP T j).2 k0 3))).1, (tP T j).2 k0 3)
theorem m_shift_some (hM0 : isM σ y g A) (hT : mT A 0 T) (hw : wT T) {u v : Int32} {i j : Nat} (hg : gd T u v i j) {k0 : Nat} (hkk : k0 < (tP T j).1) : RetX Γ m_M_shift [(.ref y), .int u, .int v, (.int (nI k0))] σ (y + 1) (y + 2) (some (.int ((K_m_shift T i j k0).1))) (fun τ => τ.2 (y + 1) = some (.inl (0, 4500, upd A (970 + 40 * j + 1 + 6 * k0 + 3) ((K_m_shift T i j k0).2)))) := by
  obtain ⟨m00, m10⟩ := id hM0
  have hgd := hg
  obtain ⟨rfl, hi, rfl, hj, hgo⟩ := hg
  have hi3 : i < 3 := by have := hw.2.1; omega
  have hj3 : j < 3 := by have := hw.2.2.1; omega
  have hwS := hw.2.2.2.1 i hi
  have hwP := hw.2.2.2.2 j hj
  have hn16 := hwS.1
  have hn5 := hwS.2.1
  have h6 := hwP.1
  have hS := hT.s hi
  have hP := hT.p hj
  have hs : 610 + 120 * i + 120 ≤ 4500 := by omega
  have e3 : A (970 + 40 * j + 1 + 6 * k0 + 3) = (tP T j).2 k0 3 := hP.2 k0 hkk 3 (by decide)
  have m1 : σ.2 (y + 1) = some (.inl (0, 4500, upd A (970 + 40 * j + 1 + 6 * k0 + 3) ((tP T j).2 k0 3))) := by rw [← e3, upd_same]; exact m10
  unfold RetX
  generalize hQ : (fun (r : Option Value) (τ : ex_S) => r = some (.int ((K_m_shift T i j k0).1)) ∧ frm σ τ (y + 1) (y + 2) ∧ (fun τ : ex_S => τ.2 (y + 1) = some (.inl (0, 4500, upd A (970 + 40 * j + 1 + 6 * k0 + 3) ((K_m_shift T i j k0).2)))) τ) = Q
  refine Ret.start pm_260 rfl ?_
  have fr : frm σ σ (y + 1) (y + 2) := frm.rf
  have m0 := frm.cell fr m00 (by omega)
  have hM : isM _ y _ (upd A (970 + 40 * j + 1 + 6 * k0 + 3) ((tP T j).2 k0 3)) := ⟨m0, m1⟩
  refine Ev.aload_n rfl rfl ?_
  refine Ev.iload_n rfl rfl ?_
  refine Ev.iload_n rfl rfl ?_
  refine Ev.iload_n rfl rfl ?_
  refine Ev.cV3 rfl rfl m0 rfl rfl (by decide) ⟨(Nat.le_refl _), (Nat.le_refl _)⟩ (m_isGoing_yes hM0 hT hw hgd hkk) ?_
  refine Ev.zne (tgt := 12) rfl (by decide) (fun c7 => ?_) (fun c7 => absurd c7 (by decide))
  refine Ev.iconst (v := 0) rfl (by decide) ?_
  refine Ev.iload_n rfl rfl ?_
  refine Ev.cS2 rfl rfl rfl (by decide) ⟨(Nat.le_refl _), (Nat.le_refl _)⟩ (m_pl0_ok i) ?_
  refine Ev.istore rfl rfl rfl ?_
  refine Ev.aload_n rfl rfl ?_
  refine Ev.iload_n rfl rfl ?_
  refine Ev.iload_n rfl rfl ?_
  refine Ev.cV2 rfl rfl m0 rfl rfl (by decide) ⟨(Nat.le_refl _), (Nat.le_refl _)⟩ (m_classAt_ok hM k0) ?_
  refine Ev.istore rfl rfl rfl ?_
  refine Ev.aload_n rfl rfl ?_
  refine Ev.getf rfl rfl m0 rfl ?_
  refine Ev.iload rfl rfl ?_
  refine Ev.iconst (v := 3) rfl (by decide) ?_
  refine Ev.iadd rfl ?_
  refine Ev.ialdN (k := 970 + 40 * j + 1 + 6 * k0 + 3) rfl m1 (nq_to (a := 970 + 40 * j + 1 + 6 * k0 + 3) (nq_add (a := 970 + 40 * j + 1 + 6 * k0) (b := 3) rfl (rfl : (3 : Int32) = nI 3)) (by omega)) ⟨(by omega), by decide⟩ ?_
  rw [pk_us]
  refine Ev.istore rfl rfl rfl ?_
  refine Ev.iconst (v := 0) rfl (by decide) ?_
  refine Ev.istore rfl rfl rfl ?_
  refine Ev.iconst (v := (-1)) rfl (by decide) ?_
  refine Ev.istore rfl rfl rfl ?_
  refine Ev.iconst (v := 0) rfl (by decide) ?_
  refine Ev.istore rfl rfl rfl ?_
  refine Ev.fg (L := [some (.ref y), none, some (.int (nI j)), some (.int (nI k0)), some (.int (nI (610 + 120 * i))), some (.int (nI (970 + 40 * j + 1 + 6 * k0))), some (.int ((tP T j).2 k0 3)), some (.int (0 : Int32)), some (.int (-1 : Int32)), some (.int (nI 0)), none]) ?_ (gs rfl (gn (gs rfl (gs rfl (gs rfl (gs rfl (gs rfl (gs rfl (gs rfl (gs (congrArg Value.int (rfl : (0 : Int32) = nI 0).symm) (gn gz)))))))))))
  refine lp (fun (k : Nat) (z : Int32 × Int32 × Int32) => ∀ τ' : ex_S, frm σ τ' (y + 1) (y + 2) → τ'.2 (y + 1) = some (.inl (0, 4500, upd A (970 + 40 * j + 1 + 6 * k0 + 3) z.2.2)) → Ev Γ 0 0 m_M_shift 0 0 47 [some (.ref y), none, some (.int (nI j)), some (.int (nI k0)), some (.int (nI (610 + 120 * i))), some (.int (nI (970 + 40 * j + 1 + 6 * k0))), some (.int ((tP T j).2 k0 3)), some (.int z.1), some (.int z.2.1), some (.int (nI k)), none] [] τ' Q) (F_m_shift_47 T i j k0) (12) (fun k z hk hx => ?_) (12) 0 ((0 : Int32), (-1 : Int32), ((tP T j).2 k0 3)) (by omega) ?_ σ fr m1
  · skip
    intro τ' fr m1
    have m0 := frm.cell fr m00 (by omega)
    have hM : isM _ y _ (upd A (970 + 40 * j + 1 + 6 * k0 + 3) z.2.2) := ⟨m0, m1⟩
    refine Ev.iload rfl rfl ?_
    refine Ev.bipush (v := 12) rfl (by decide) ?_
    refine Ev.jge (tgt := 105) rfl (by decide) (fun c51 => absurd (nI_lt hk (by omega)) c51) (fun c51 => ?_)
    refine Ev.aload_n rfl rfl ?_
    refine Ev.getf rfl rfl m0 rfl ?_
    refine Ev.iload rfl rfl ?_
    refine Ev.iconst (v := 3) rfl (by decide) ?_
    refine Ev.iadd rfl ?_
    refine Ev.iload rfl rfl ?_
    refine Ev.iastE (k := 970 + 40 * j + 1 + 6 * k0 + 3) rfl m1 (nq_to (a := 970 + 40 * j + 1 + 6 * k0 + 3) (nq_add (a := 970 + 40 * j + 1 + 6 * k0) (b := 3) rfl (rfl : (3 : Int32) = nI 3)) (by omega)) ⟨(by omega), by decide⟩ (fun τ1 f1 m1 => ?_)
    rw [upd_upd] at m1
    have fr := fr.step f1 (by omega) (by omega)
    have m0 := frm.cell fr m00 (by omega)
    have hM : isM _ y _ (upd A (970 + 40 * j + 1 + 6 * k0 + 3) (nI k)) := ⟨m0, m1⟩
    refine Ev.aload_n rfl rfl ?_
    refine Ev.iload rfl rfl ?_
    refine Ev.iload rfl rfl ?_
    refine Ev.aload_n rfl rfl ?_
    refine Ev.iload_n rfl rfl ?_
    refine Ev.iload_n rfl rfl ?_
    refine Ev.cV2 rfl rfl m0 rfl rfl (by decide) ⟨(Nat.le_refl _), (Nat.le_refl _)⟩ (sits_upd3 hM hP hj3 h6 hkk) ?_
    refine Ev.cV3 rfl rfl m0 rfl rfl (by decide) ⟨(Nat.le_refl _), (Nat.le_refl _)⟩ (m_tog_W hM (mS_upd hS hn16 hn5 (by omega) _) hs hwS (mL_upd3 (hP.2 k0 (by omega)) _) (by omega) (wL_set3 (hwP.2 k0 (by omega)) (rg_12 hk)) (goT_set3 (hgo k0 (by omega)).1) (hgo k0 (by omega)).2) ?_
    refine Ev.istore rfl rfl rfl ?_
    refine Ev.iload rfl rfl ?_
    refine Ev.iload rfl rfl ?_
    refine Ev.jgt (tgt := 91) rfl (by decide) (fun c85 => ?_) (fun c85 => ?_)
    · skip
      refine Ev.iload rfl rfl ?_
      refine Ev.istore rfl rfl rfl ?_
      refine Ev.iload rfl rfl ?_
      refine Ev.istore rfl rfl rfl ?_
      refine Ev.iinc (d := 1) rfl rfl rfl (by decide) rfl ?_
      refine Ev.goto (tgt := 47) rfl (by decide) ?_
      have hF : (F_m_shift_47 T i j k0) k z = (nI k, K_tog (tS T i) (L_set ((tP T j).2 k0) 3 (nI k)) ((tP T j).2 k0 5), nI k) := by
        unfold F_m_shift_47
        rw [if_pos c85]
      rw [hF] at hx
      exact (hx τ1 fr m1).fg (gs rfl (gn (gs rfl (gs rfl (gs rfl (gs rfl (gs rfl (gs rfl (gs rfl (gs (congrArg Value.int (show nI (k + 1) = (nI k) + (1 : Int32) from (nq_to (a := k + 1) (nq_add (a := k) (b := 1) rfl (rfl : (1 : Int32) = nI 1)) (by omega)).symm)) (gn gz)))))))))))
    · skip
      refine Ev.goto (tgt := 99) rfl (by decide) ?_
      refine Ev.iinc (d := 1) rfl rfl rfl (by decide) rfl ?_
      refine Ev.goto (tgt := 47) rfl (by decide) ?_
      have hF : (F_m_shift_47 T i j k0) k z = (z.1, z.2.1, nI k) := by
        unfold F_m_shift_47
        rw [if_neg c85]
      rw [hF] at hx
      exact (hx τ1 fr m1).fg (gs rfl (gn (gs rfl (gs rfl (gs rfl (gs rfl (gs rfl (gs rfl (gs rfl (gs (congrArg Value.int (show nI (k + 1) = (nI k) + (1 : Int32) from (nq_to (a := k + 1) (nq_add (a := k) (b := 1) rfl (rfl : (1 : Int32) = nI 1)) (by omega)).symm)) (gn gz)))))))))))
  · skip
    intro τ' fr m1
    have m0 := frm.cell fr m00 (by omega)
    have hM : isM _ y _ (upd A (970 + 40 * j + 1 + 6 * k0 + 3) ((fo (F_m_shift_47 T i j k0) (12) 0 ((0 : Int32), (-1 : Int32), ((tP T j).2 k0 3))).2.2)) := ⟨m0, m1⟩
    refine Ev.iload rfl rfl ?_
    refine Ev.bipush (v := 12) rfl (by decide) ?_
    refine Ev.jge (tgt := 105) rfl (by decide) (fun c51 => ?_) (fun c51 => absurd c51 (nI_nlt (Nat.le_refl _) (by omega)))
    refine Ev.aload_n rfl rfl ?_
    refine Ev.getf rfl rfl m0 rfl ?_
    refine Ev.iload rfl rfl ?_
    refine Ev.iconst (v := 3) rfl (by decide) ?_
    refine Ev.iadd rfl ?_
    refine Ev.iload rfl rfl ?_
    refine Ev.iastE (k := 970 + 40 * j + 1 + 6 * k0 + 3) rfl m1 (nq_to (a := 970 + 40 * j + 1 + 6 * k0 + 3) (nq_add (a := 970 + 40 * j + 1 + 6 * k0) (b := 3) rfl (rfl : (3 : Int32) = nI 3)) (by omega)) ⟨(by omega), by decide⟩ (fun τ2 f1 m1 => ?_)
    rw [upd_upd] at m1
    have fr := fr.step f1 (by omega) (by omega)
    have m0 := frm.cell fr m00 (by omega)
    have hM : isM _ y _ (upd A (970 + 40 * j + 1 + 6 * k0 + 3) ((tP T j).2 k0 3)) := ⟨m0, m1⟩
    refine Ev.iload rfl rfl ?_
    refine Ev.iret (ty := .int) rfl rfl rfl (Nat.le_refl _) (Nat.le_refl _) ?_
    have hK : (K_m_shift T i j k0) = ((fo (F_m_shift_47 T i j k0) (12) 0 ((0 : Int32), (-1 : Int32), ((tP T j).2 k0 3))).1, (tP T j).2 k0 3) := by rfl
    rw [← hQ]
    dsimp only
    rw [hK]
    exact ⟨rfl, fr, m1⟩
end
end
