/-! Texts: both answer alike. -/
noncomputable section
section
variable {Γ : ex_G} {σ : ex_S} {x q a p y : Nat} {S : Sch} {T : Tol} {P : Pln} {g A : Nat → Int32}
variable {T : Tol}
theorem m_txN_s (hM : isM σ y g A) (hT : mT A 0 T) (hw : wT T) {w : Int32} (hp : plx w (tSn T)) : RetX Γ m_M_text [.ref y, .int 0, .int w] σ y (y + 2) (some (.int (-2))) (fun τ => ∃ (g1 A1 : Nat → Int32), τ.2 y = some (.inr (.inr (10, mo y g1))) ∧ τ.2 (y + 1) = some (.inl (0, 4500, A1)) ∧ (∀ q, 1090 ≤ q → q < 4360 → A1 q = A q) ∧ mT A1 0 (T_tx T 0 (-1))) := by
  obtain ⟨m0, m_all⟩ := id hM
  have hA2 : A 2 = nI (tN T) := hT.2.2.1
  unfold RetX
  generalize hQ : ((fun (r0 : Option Value) (τ : ex_S) => r0 = some (.int (-2)) ∧ frm σ τ y (y + 2) ∧ (fun τ : ex_S => ∃ (g1 A1 : Nat → Int32), τ.2 y = some (.inr (.inr (10, mo y g1))) ∧ τ.2 (y + 1) = some (.inl (0, 4500, A1)) ∧ (∀ q, 1090 ≤ q → q < 4360 → A1 q = A q) ∧ mT A1 0 (T_tx T 0 (-1))) τ)) = Q
  refine Ret.start pm_191 rfl ?_
  have fr : frm σ σ y (y + 2) := frm.rf
  refine Ev.aload_n rfl rfl ?_
  refine Ev.aload_n rfl rfl ?_
  refine Ev.getf rfl rfl m0 rfl ?_
  refine Ev.iconst (v := 2) rfl (by decide) ?_
  refine Ev.ialdN (k := 2) rfl m_all (rfl : (2 : Int32) = nI 2) ⟨(by omega), by decide⟩ ?_
  rw [hA2]
  refine Ev.putE rfl rfl m0 rfl rfl rfl (Nat.le_of_ble_eq_true rfl) (fun τ701 f1 q1 => ?_)
  have m0 : τ701.2 y = some (.inr (.inr (10, mo y (upd g 2 (nI (tN T)))))) := q1
  have m_all := frm.cell f1 m_all (by omega)
  have fr := fr.step f1 (by omega) (by omega)
  refine Ev.aload_n rfl rfl ?_
  refine Ev.getf rfl rfl m0 rfl ?_
  refine Ev.iconst (v := 2) rfl (by decide) ?_
  refine Ev.iconst (v := 0) rfl (by decide) ?_
  refine Ev.iastE (k := 2) rfl m_all (rfl : (2 : Int32) = nI 2) ⟨(by omega), by decide⟩ (fun τ1 f1 m_all => ?_)
  have m0 := frm.cell f1 m0 (by omega)
  have fr := fr.step f1 (by omega) (by omega)
  refine Ev.aload_n rfl rfl ?_
  refine Ev.iconst (v := 0) rfl (by decide) ?_
  refine Ev.putE rfl rfl m0 rfl rfl rfl (Nat.le_of_ble_eq_true rfl) (fun τ702 f1 q1 => ?_)
  have m0 : τ702.2 y = some (.inr (.inr (10, mo y (upd (upd g 2 (nI (tN T))) 3 (0 : Int32))))) := q1
  have m_all := frm.cell f1 m_all (by omega)
  have fr := fr.step f1 (by omega) (by omega)
  refine Ev.aload_n rfl rfl ?_
  refine Ev.getf rfl rfl m0 rfl ?_
  refine Ev.iconst (v := 3) rfl (by decide) ?_
  refine Ev.iconst (v := 0) rfl (by decide) ?_
  refine Ev.iastE (k := 3) rfl m_all (rfl : (3 : Int32) = nI 3) ⟨(by omega), by decide⟩ (fun τ2 f1 m_all => ?_)
  have m0 := frm.cell f1 m0 (by omega)
  have fr := fr.step f1 (by omega) (by omega)
  refine Ev.aload_n rfl rfl ?_
  refine Ev.getf rfl rfl m0 rfl ?_
  refine Ev.iconst (v := 4) rfl (by decide) ?_
  refine Ev.iconst (v := (-1)) rfl (by decide) ?_
  refine Ev.iastE (k := 4) rfl m_all (rfl : (4 : Int32) = nI 4) ⟨(by omega), by decide⟩ (fun τ3 f1 m_all => ?_)
  have m0 := frm.cell f1 m0 (by omega)
  have fr := fr.step f1 (by omega) (by omega)
  refine Ev.aload_n rfl rfl ?_
  refine Ev.iconst (v := 0) rfl (by decide) ?_
  refine Ev.putE rfl rfl m0 rfl rfl rfl (Nat.le_of_ble_eq_true rfl) (fun τ703 f1 q1 => ?_)
  have m0 : τ703.2 y = some (.inr (.inr (10, mo y (upd (upd (upd g 2 (nI (tN T))) 3 (0 : Int32)) 8 (0 : Int32))))) := q1
  have m_all := frm.cell f1 m_all (by omega)
  have fr := fr.step f1 (by omega) (by omega)
  refine Ev.iload_n rfl rfl ?_
  refine Ev.iconst (v := 0) rfl (by decide) ?_
  refine Ev.iconst (v := 1) rfl (by decide) ?_
  refine Ev.cS3 rfl rfl rfl (by decide) ⟨(Nat.le_refl _), (Nat.le_refl _)⟩ (m_in_y (by decide)) ?_
  refine Ev.zeq (tgt := 59) rfl (by decide) (fun c47 => absurd c47 (by decide)) (fun c47 => ?_)
  have hM1 : isM _ y (upd (upd (upd g 2 (nI (tN T))) 3 (0 : Int32)) 8 (0 : Int32)) (upd (upd (upd A 2 (0 : Int32)) 3 (0 : Int32)) 4 (-1 : Int32)) := ⟨m0, m_all⟩
  have hT1 : mT (upd (upd (upd A 2 (0 : Int32)) 3 (0 : Int32)) 4 (-1 : Int32)) 0 (T_tx T 0 (-1)) := tx_mT hT hw (fun q a b c => (pk_un c).trans ((pk_un b).trans (pk_un a))) ((pk_un (by decide)).trans ((pk_un (by decide)).trans pk_us)) ((pk_un (by decide)).trans pk_us) pk_us
  have hw1 : wT (T_tx T 0 (-1)) := tx_wT hw
  refine Ev.aload_n rfl rfl ?_
  refine Ev.iload_n rfl rfl ?_
  refine Ev.iload_n rfl rfl ?_
  refine Ev.cV2 rfl rfl m0 rfl rfl (by decide) ⟨(Nat.le_refl _), (Nat.le_refl _)⟩ (m_free_no hM1 hT1 hw1 hp) ?_
  refine Ev.zne (tgt := 62) rfl (by decide) (fun c56 => absurd (by decide) c56) (fun c56 => ?_)
  refine Ev.bipush (v := (-2)) rfl (by decide) ?_
  refine Ev.iret (ty := .int) rfl rfl rfl (Nat.le_refl _) (Nat.le_refl _) ?_
  rw [← hQ]
  exact ⟨rfl, fr, _, _, m0, m_all, fun q a b => (pk_un (by omega)).trans ((pk_un (by omega)).trans (pk_un (by omega))), hT1⟩
theorem m_txN_p (hM : isM σ y g A) (hT : mT A 0 T) (hw : wT T) {w : Int32} (hp : plx w (tPn T)) : RetX Γ m_M_text [.ref y, .int 1, .int w] σ y (y + 2) (some (.int (-2))) (fun τ => ∃ (g1 A1 : Nat → Int32), τ.2 y = some (.inr (.inr (10, mo y g1))) ∧ τ.2 (y + 1) = some (.inl (0, 4500, A1)) ∧ (∀ q, 1090 ≤ q → q < 4360 → A1 q = A q) ∧ mT A1 0 (T_tx T 0 (-1))) := by
  obtain ⟨m0, m_all⟩ := id hM
  have hA2 : A 2 = nI (tN T) := hT.2.2.1
  unfold RetX
  generalize hQ : ((fun (r0 : Option Value) (τ : ex_S) => r0 = some (.int (-2)) ∧ frm σ τ y (y + 2) ∧ (fun τ : ex_S => ∃ (g1 A1 : Nat → Int32), τ.2 y = some (.inr (.inr (10, mo y g1))) ∧ τ.2 (y + 1) = some (.inl (0, 4500, A1)) ∧ (∀ q, 1090 ≤ q → q < 4360 → A1 q = A q) ∧ mT A1 0 (T_tx T 0 (-1))) τ)) = Q
  refine Ret.start pm_191 rfl ?_
  have fr : frm σ σ y (y + 2) := frm.rf
  refine Ev.aload_n rfl rfl ?_
  refine Ev.aload_n rfl rfl ?_
  refine Ev.getf rfl rfl m0 rfl ?_
  refine Ev.iconst (v := 2) rfl (by decide) ?_
  refine Ev.ialdN (k := 2) rfl m_all (rfl : (2 : Int32) = nI 2) ⟨(by omega), by decide⟩ ?_
  rw [hA2]
  refine Ev.putE rfl rfl m0 rfl rfl rfl (Nat.le_of_ble_eq_true rfl) (fun τ701 f1 q1 => ?_)
  have m0 : τ701.2 y = some (.inr (.inr (10, mo y (upd g 2 (nI (tN T)))))) := q1
  have m_all := frm.cell f1 m_all (by omega)
  have fr := fr.step f1 (by omega) (by omega)
  refine Ev.aload_n rfl rfl ?_
  refine Ev.getf rfl rfl m0 rfl ?_
  refine Ev.iconst (v := 2) rfl (by decide) ?_
  refine Ev.iconst (v := 0) rfl (by decide) ?_
  refine Ev.iastE (k := 2) rfl m_all (rfl : (2 : Int32) = nI 2) ⟨(by omega), by decide⟩ (fun τ1 f1 m_all => ?_)
  have m0 := frm.cell f1 m0 (by omega)
  have fr := fr.step f1 (by omega) (by omega)
  refine Ev.aload_n rfl rfl ?_
  refine Ev.iconst (v := 0) rfl (by decide) ?_
  refine Ev.putE rfl rfl m0 rfl rfl rfl (Nat.le_of_ble_eq_true rfl) (fun τ702 f1 q1 => ?_)
  have m0 : τ702.2 y = some (.inr (.inr (10, mo y (upd (upd g 2 (nI (tN T))) 3 (0 : Int32))))) := q1
  have m_all := frm.cell f1 m_all (by omega)
  have fr := fr.step f1 (by omega) (by omega)
  refine Ev.aload_n rfl rfl ?_
  refine Ev.getf rfl rfl m0 rfl ?_
  refine Ev.iconst (v := 3) rfl (by decide) ?_
  refine Ev.iconst (v := 0) rfl (by decide) ?_
  refine Ev.iastE (k := 3) rfl m_all (rfl : (3 : Int32) = nI 3) ⟨(by omega), by decide⟩ (fun τ2 f1 m_all => ?_)
  have m0 := frm.cell f1 m0 (by omega)
  have fr := fr.step f1 (by omega) (by omega)
  refine Ev.aload_n rfl rfl ?_
  refine Ev.getf rfl rfl m0 rfl ?_
  refine Ev.iconst (v := 4) rfl (by decide) ?_
  refine Ev.iconst (v := (-1)) rfl (by decide) ?_
  refine Ev.iastE (k := 4) rfl m_all (rfl : (4 : Int32) = nI 4) ⟨(by omega), by decide⟩ (fun τ3 f1 m_all => ?_)
  have m0 := frm.cell f1 m0 (by omega)
  have fr := fr.step f1 (by omega) (by omega)
  refine Ev.aload_n rfl rfl ?_
  refine Ev.iconst (v := 0) rfl (by decide) ?_
  refine Ev.putE rfl rfl m0 rfl rfl rfl (Nat.le_of_ble_eq_true rfl) (fun τ703 f1 q1 => ?_)
  have m0 : τ703.2 y = some (.inr (.inr (10, mo y (upd (upd (upd g 2 (nI (tN T))) 3 (0 : Int32)) 8 (0 : Int32))))) := q1
  have m_all := frm.cell f1 m_all (by omega)
  have fr := fr.step f1 (by omega) (by omega)
  refine Ev.iload_n rfl rfl ?_
  refine Ev.iconst (v := 0) rfl (by decide) ?_
  refine Ev.iconst (v := 1) rfl (by decide) ?_
  refine Ev.cS3 rfl rfl rfl (by decide) ⟨(Nat.le_refl _), (Nat.le_refl _)⟩ (m_in_y (by decide)) ?_
  refine Ev.zeq (tgt := 59) rfl (by decide) (fun c47 => absurd c47 (by decide)) (fun c47 => ?_)
  have hM1 : isM _ y (upd (upd (upd g 2 (nI (tN T))) 3 (0 : Int32)) 8 (0 : Int32)) (upd (upd (upd A 2 (0 : Int32)) 3 (0 : Int32)) 4 (-1 : Int32)) := ⟨m0, m_all⟩
  have hT1 : mT (upd (upd (upd A 2 (0 : Int32)) 3 (0 : Int32)) 4 (-1 : Int32)) 0 (T_tx T 0 (-1)) := tx_mT hT hw (fun q a b c => (pk_un c).trans ((pk_un b).trans (pk_un a))) ((pk_un (by decide)).trans ((pk_un (by decide)).trans pk_us)) ((pk_un (by decide)).trans pk_us) pk_us
  have hw1 : wT (T_tx T 0 (-1)) := tx_wT hw
  refine Ev.aload_n rfl rfl ?_
  refine Ev.iload_n rfl rfl ?_
  refine Ev.iload_n rfl rfl ?_
  refine Ev.cV2 rfl rfl m0 rfl rfl (by decide) ⟨(Nat.le_refl _), (Nat.le_refl _)⟩ (m_freeP_no hM1 hT1 hw1 hp) ?_
  refine Ev.zne (tgt := 62) rfl (by decide) (fun c56 => absurd (by decide) c56) (fun c56 => ?_)
  refine Ev.bipush (v := (-2)) rfl (by decide) ?_
  refine Ev.iret (ty := .int) rfl rfl rfl (Nat.le_refl _) (Nat.le_refl _) ?_
  rw [← hQ]
  exact ⟨rfl, fr, _, _, m0, m_all, fun q a b => (pk_un (by omega)).trans ((pk_un (by omega)).trans (pk_un (by omega))), hT1⟩
theorem m_txN_o (hM : isM σ y g A) (hT : mT A 0 T) (hw : wT T) {w : Int32} {s : Int32} (hs0 : ¬ s = 0) (hs1 : ¬ s = 1) : RetX Γ m_M_text [.ref y, .int s, .int w] σ y (y + 2) (some (.int (-2))) (fun τ => ∃ (g1 A1 : Nat → Int32), τ.2 y = some (.inr (.inr (10, mo y g1))) ∧ τ.2 (y + 1) = some (.inl (0, 4500, A1)) ∧ (∀ q, 1090 ≤ q → q < 4360 → A1 q = A q) ∧ mT A1 0 (T_tx T 0 (-1))) := by
  obtain ⟨m0, m_all⟩ := id hM
  have hA2 : A 2 = nI (tN T) := hT.2.2.1
  unfold RetX
  generalize hQ : ((fun (r0 : Option Value) (τ : ex_S) => r0 = some (.int (-2)) ∧ frm σ τ y (y + 2) ∧ (fun τ : ex_S => ∃ (g1 A1 : Nat → Int32), τ.2 y = some (.inr (.inr (10, mo y g1))) ∧ τ.2 (y + 1) = some (.inl (0, 4500, A1)) ∧ (∀ q, 1090 ≤ q → q < 4360 → A1 q = A q) ∧ mT A1 0 (T_tx T 0 (-1))) τ)) = Q
  refine Ret.start pm_191 rfl ?_
  have fr : frm σ σ y (y + 2) := frm.rf
  refine Ev.aload_n rfl rfl ?_
  refine Ev.aload_n rfl rfl ?_
  refine Ev.getf rfl rfl m0 rfl ?_
  refine Ev.iconst (v := 2) rfl (by decide) ?_
  refine Ev.ialdN (k := 2) rfl m_all (rfl : (2 : Int32) = nI 2) ⟨(by omega), by decide⟩ ?_
  rw [hA2]
  refine Ev.putE rfl rfl m0 rfl rfl rfl (Nat.le_of_ble_eq_true rfl) (fun τ701 f1 q1 => ?_)
  have m0 : τ701.2 y = some (.inr (.inr (10, mo y (upd g 2 (nI (tN T)))))) := q1
  have m_all := frm.cell f1 m_all (by omega)
  have fr := fr.step f1 (by omega) (by omega)
  refine Ev.aload_n rfl rfl ?_
  refine Ev.getf rfl rfl m0 rfl ?_
  refine Ev.iconst (v := 2) rfl (by decide) ?_
  refine Ev.iconst (v := 0) rfl (by decide) ?_
  refine Ev.iastE (k := 2) rfl m_all (rfl : (2 : Int32) = nI 2) ⟨(by omega), by decide⟩ (fun τ1 f1 m_all => ?_)
  have m0 := frm.cell f1 m0 (by omega)
  have fr := fr.step f1 (by omega) (by omega)
  refine Ev.aload_n rfl rfl ?_
  refine Ev.iconst (v := 0) rfl (by decide) ?_
  refine Ev.putE rfl rfl m0 rfl rfl rfl (Nat.le_of_ble_eq_true rfl) (fun τ702 f1 q1 => ?_)
  have m0 : τ702.2 y = some (.inr (.inr (10, mo y (upd (upd g 2 (nI (tN T))) 3 (0 : Int32))))) := q1
  have m_all := frm.cell f1 m_all (by omega)
  have fr := fr.step f1 (by omega) (by omega)
  refine Ev.aload_n rfl rfl ?_
  refine Ev.getf rfl rfl m0 rfl ?_
  refine Ev.iconst (v := 3) rfl (by decide) ?_
  refine Ev.iconst (v := 0) rfl (by decide) ?_
  refine Ev.iastE (k := 3) rfl m_all (rfl : (3 : Int32) = nI 3) ⟨(by omega), by decide⟩ (fun τ2 f1 m_all => ?_)
  have m0 := frm.cell f1 m0 (by omega)
  have fr := fr.step f1 (by omega) (by omega)
  refine Ev.aload_n rfl rfl ?_
  refine Ev.getf rfl rfl m0 rfl ?_
  refine Ev.iconst (v := 4) rfl (by decide) ?_
  refine Ev.iconst (v := (-1)) rfl (by decide) ?_
  refine Ev.iastE (k := 4) rfl m_all (rfl : (4 : Int32) = nI 4) ⟨(by omega), by decide⟩ (fun τ3 f1 m_all => ?_)
  have m0 := frm.cell f1 m0 (by omega)
  have fr := fr.step f1 (by omega) (by omega)
  refine Ev.aload_n rfl rfl ?_
  refine Ev.iconst (v := 0) rfl (by decide) ?_
  refine Ev.putE rfl rfl m0 rfl rfl rfl (Nat.le_of_ble_eq_true rfl) (fun τ703 f1 q1 => ?_)
  have m0 : τ703.2 y = some (.inr (.inr (10, mo y (upd (upd (upd g 2 (nI (tN T))) 3 (0 : Int32)) 8 (0 : Int32))))) := q1
  have m_all := frm.cell f1 m_all (by omega)
  have fr := fr.step f1 (by omega) (by omega)
  refine Ev.iload_n rfl rfl ?_
  refine Ev.iconst (v := 0) rfl (by decide) ?_
  refine Ev.iconst (v := 1) rfl (by decide) ?_
  refine Ev.cS3 rfl rfl rfl (by decide) ⟨(Nat.le_refl _), (Nat.le_refl _)⟩ (m_in_n (K_in_01 hs0 hs1)) ?_
  refine Ev.zeq (tgt := 59) rfl (by decide) (fun c47 => ?_) (fun c47 => absurd (by decide) c47)
  refine Ev.bipush (v := (-2)) rfl (by decide) ?_
  refine Ev.iret (ty := .int) rfl rfl rfl (Nat.le_refl _) (Nat.le_refl _) ?_
  have hT1 : mT (upd (upd (upd A 2 (0 : Int32)) 3 (0 : Int32)) 4 (-1 : Int32)) 0 (T_tx T 0 (-1)) := tx_mT hT hw (fun q a b c => (pk_un c).trans ((pk_un b).trans (pk_un a))) ((pk_un (by decide)).trans ((pk_un (by decide)).trans pk_us)) ((pk_un (by decide)).trans pk_us) pk_us
  rw [← hQ]
  exact ⟨rfl, fr, _, _, m0, m_all, fun q a b => (pk_un (by omega)).trans ((pk_un (by omega)).trans (pk_un (by omega))), hT1⟩
end
theorem InvM.tx {σ τ : ex_S} {y : Nat} {T T' : Tol} {I : Nat → Option Tol} {A A1 g1 rd1 : Nat → Int32} (h : InvM σ y T I) (hIw : ∀ k U, k < 3 → I k = some U → wT U ∧ fitT U) (hA0 : σ.2 (y + 1) = some (.inl (0, 4500, A))) (m0 : τ.2 y = some (.inr (.inr (10, mo y g1)))) (hA1 : τ.2 (y + 1) = some (.inl (0, 4500, A1))) (h3 : τ.2 (y + 3) = some (.inl (0, 120, rd1))) (h2 : τ.2 (y + 2) = σ.2 (y + 2)) (hk : ∀ q, 1090 ≤ q → q < 4360 → A1 q = A q) (hm : mT A1 0 T') (hf : frm σ τ y (y + 4)) : InvM τ y T' I := by
  obtain ⟨g, A', hs, rd, al, bs, bm, bz, tr, rw, op, lo, me, pb, pw, st, en, ⟨a1, a2⟩, a3, a4, b0, b1, b2, b3, b4, b5, b6, b7, b8, b9, b10, b11, b12, b13, b14, z1, z2⟩ := h
  have eA : A' = A := by
    rw [hA0] at a2
    cases a2
    rfl
  subst eA
  exact ⟨g1, A1, hs, rd1, al, bs, bm, bz, tr, rw, op, lo, me, pb, pw, st, en, ⟨m0, hA1⟩, hm, fun k U q3 hU => (a4 k U q3 hU).mv (hIw k U q3 hU).1 (fun q q1 => hk _ (by omega) (by omega)), h2.trans b0, h3, (hf.2 _ (by omega)).trans b2, (hf.2 _ (by omega)).trans b3, (hf.2 _ (by omega)).trans b4, (hf.2 _ (by omega)).trans b5, (hf.2 _ (by omega)).trans b6, (hf.2 _ (by omega)).trans b7, (hf.2 _ (by omega)).trans b8, (hf.2 _ (by omega)).trans b9, (hf.2 _ (by omega)).trans b10, (hf.2 _ (by omega)).trans b11, (hf.2 _ (by omega)).trans b12, (hf.2 _ (by omega)).trans b13, (hf.2 _ (by omega)).trans b14, z1, z2⟩
section
variable {Γ : ex_G} {x : Nat}
/-- a text that is refused -/
theorem pr_text_no {σ : ex_S} {T : Tol} {I : Nat → Option Tol} {s w : Int32} (h : Inv σ x T I) (hC : RetX Γ m_SD_text [.ref x, .int s, .int w] σ (x + 1) (x + 2) (some (.int (-2))) (fun τ => isT τ (x + 1) (T_tx T 0 (-1)) ∧ τ.2 (x + 62) = σ.2 (x + 62))) (hR : ∀ τ g A, isM τ (x + 117) g A → mT A 0 T → RetX Γ m_M_text [.ref (x + 117), .int s, .int w] τ (x + 117) (x + 117 + 2) (some (.int (-2))) (fun υ => ∃ (g1 A1 : Nat → Int32), υ.2 (x + 117) = some (.inr (.inr (10, mo (x + 117) g1))) ∧ υ.2 (x + 117 + 1) = some (.inl (0, 4500, A1)) ∧ (∀ q, 1090 ≤ q → q < 4360 → A1 q = A q) ∧ mT A1 0 (T_tx T 0 (-1)))) : ∃ v T' I', CallC Γ x m_SD_text [.int s, .int w] σ v T T' I I' ∧ ∀ τ, Mid τ x T T' I I' → CallM Γ x m_M_text [.int s, .int w] τ v T' I' := by
  refine ⟨-2, T_tx T 0 (-1), I, CallC.T (lo := x + 1) (hi := x + 2) h hC (by omega) (fun τ _ q => q.1), fun τ hτ => ?_⟩
  obtain ⟨g, A, hM, hmT⟩ := hτ.m
  refine Ret.imp (hR τ g A hM hmT) (fun r υ q => ?_)
  obtain ⟨q1, f1, g1, A1, m0, m1, hk, hm⟩ := q
  obtain ⟨hc, hM0, h3, h4, h5, h6⟩ := hτ
  have hb1 : ∃ rd, τ.2 (x + 117 + 3) = some (.inl (0, 120, rd)) := by
    obtain ⟨_, _, _, rd, _, _, _, _, _, _, _, _, _, _, _, _, _, -, -, -, -, b1, -⟩ := id hM0
    exact ⟨rd, b1⟩
  obtain ⟨rd, b1⟩ := hb1
  exact ⟨q1, hc.ref (f1.mono (by omega) (by omega)), hM0.tx h5 hM.2 m0 m1 ((f1.2 _ (by omega)).trans b1) (f1.2 _ (by omega)) hk hm (f1.mono (by omega) (by omega)), tx_wT h3, h4, h5, by rw [f1.1]; exact h6⟩
/-- a text that is read -/
theorem pr_text_yes {σ : ex_S} {T T' : Tol} {I : Nat → Option Tol} {s w v : Int32} (h : Inv σ x T I) (hw' : wT T') (hf' : fitT T') (hC : RetX Γ m_SD_text [.ref x, .int s, .int w] σ (x + 1) (x + 84) (some (.int v)) (fun τ => isT τ (x + 1) T' ∧ cR τ x ∧ τ.2 (x + 62) = σ.2 (x + 62))) (hR : ∀ τ g A rd, isM τ (x + 117) g A → τ.2 (x + 117 + 3) = some (.inl (0, 120, rd)) → mT A 0 T → RetX Γ m_M_text [.ref (x + 117), .int s, .int w] τ (x + 117) (x + 117 + 4) (some (.int v)) (fun υ => ∃ (g1 A1 rd1 : Nat → Int32), υ.2 (x + 117) = some (.inr (.inr (10, mo (x + 117) g1))) ∧ υ.2 (x + 117 + 1) = some (.inl (0, 4500, A1)) ∧ υ.2 (x + 117 + 3) = some (.inl (0, 120, rd1)) ∧ υ.2 (x + 117 + 2) = τ.2 (x + 117 + 2) ∧ (∀ q, 1090 ≤ q → q < 4360 → A1 q = A q) ∧ mT A1 0 T')) : ∃ v T' I', CallC Γ x m_SD_text [.int s, .int w] σ v T T' I I' ∧ ∀ τ, Mid τ x T T' I I' → CallM Γ x m_M_text [.int s, .int w] τ v T' I' := by
  refine ⟨v, T', I, ⟨0, 0, by omega, by omega, Ret.imp hC (fun r τ q => ?_)⟩, fun τ hτ => ?_⟩
  · obtain ⟨q1, f1, q2, q3, q4⟩ := q
    obtain ⟨hc, hm, h3, h4, h5, h6⟩ := h
    exact ⟨q1, hc.tx f1 q4 q2 q3, hm.cls f1 (by omega), h3, h4, h5, by rw [f1.1]; exact h6⟩
  · obtain ⟨hc, hM0, h3, h4, h5, h6⟩ := hτ
    obtain ⟨g, A, hs, rd, al, bs, bm, bz, tr, rw, op, lo, me, pb, pw, st, en, hM, hmT, -, b0, b1, -⟩ := id hM0
    refine Ret.imp (hR τ g A rd hM b1 hmT) (fun r υ q => ?_)
    obtain ⟨q1, f1, g1, A1, rd1, m0, m1, m3, m2, hk, hm⟩ := q
    exact ⟨q1, hc.ref (f1.mono (by omega) (by omega)), hM0.tx h5 hM.2 m0 m1 m3 m2 hk hm f1, hw', hf', h5, by rw [f1.1]; exact h6⟩
theorem pr_text (hRt : rdst Γ) (hFR : frst Γ) (hw0 : wtx Γ 0 90 (fun k => wdS.getD k 0)) (hw1 : wtx Γ 1 31 (fun k => wdP.getD k 0)) (s w : Int32) : Pair Γ x m_SD_text m_M_text [.int s, .int w] := by
  intro σ T I h
  obtain ⟨hX, hT, hw⟩ := h.c
  have hf : fitT T := h.2.2.2.1
  obtain ⟨ht, hc, hA⟩ := txU_txt hw hf
  obtain ⟨S0, P0, nu, tv, i1, i2, i3, i4, i5, i6, i7, i8, e0, e1, e2, e3, -⟩ := h.1.2.2.2.1
  have hAU : ∀ {A : Nat → Int32}, mT A 0 T → ∀ p, p < tN T → A (10 + p) = nI (txU T p) := fun hmT p hp => by
    have hn := hw.1
    have := hmT.2.2.2.2.2.1 p (by omega)
    rw [show 0 + 10 + p = 10 + p by omega] at this
    rw [this]
    exact hA p hp
  have hok0 : Rok (txU T) (tN T) (false, 0, 0, -1) := ⟨Nat.zero_le _, Nat.zero_le _, fun _ q => absurd rfl q⟩
  by_cases hs0 : s = 0
  · subst hs0
    rcases plc_cases w hw.2.1 with hp | ⟨k, hp⟩
    · exact pr_text_no h (txN_s hX hT hw hp) (fun τ g A hM hmT => m_txN_s hM hmT hw hp)
    · obtain ⟨m, hm⟩ := tEnd_ex (f := fun i => (qS (txU T) (tN T) (clS S0) i).1) ht hok0 rfl (fun i a b c => stS_ok ht a b c)
      have hwq : ∀ i, i ≤ m → wS (qS (txU T) (tN T) (clS S0) i).2 := by
        intro i
        induction i with
        | zero => exact fun _ => clS_wS S0
        | succ i ih => exact fun hi => stS_wS ht (hm.2.2.1 i (by omega)) (hm.1 i (by omega)).1 (hm.1 i (by omega)).2 (ih (by omega))
      have hplt := hp.lt hw.2.1
      refine pr_text_yes h ?_ ?_ (txt_0 hX hT hw hf e0 e1 e2 e3 hRt hFR hw0 hp hm) (fun τ g A rd hM hrd hmT => m_text0_ok hM hrd hmT hw ht rfl (hAU hmT) hp S0 hm)
      · split
        · exact put_wT (tx_wT hw) (hwq m (Nat.le_refl _)) hplt.1 hplt.2
        · exact tx_wT hw
      · split
        · exact hf
        · exact hf
  · by_cases hs1 : s = 1
    · subst hs1
      rcases plc_cases w hw.2.2.1 with hp | ⟨k, hp⟩
      · exact pr_text_no h (txN_p hX hT hw hp) (fun τ g A hM hmT => m_txN_p hM hmT hw hp)
      · obtain ⟨m, hm⟩ := tEnd_ex (f := fun i => (qP (txU T) (tN T) (0, P0.2) i).1) ht hok0 rfl (fun i a b c => stP_ok ht a b c)
        have hwq : ∀ i, i ≤ m → wP (qP (txU T) (tN T) (0, P0.2) i).2 := by
          intro i
          induction i with
          | zero => exact fun _ => ⟨Nat.zero_le _, fun k hk => absurd hk (Nat.not_lt_zero _)⟩
          | succ i ih => exact fun hi => stP_wP ht (hm.2.2.1 i (by omega)) (hm.1 i (by omega)).1 (hm.1 i (by omega)).2 (ih (by omega))
        have hplt := hp.lt hw.2.2.1
        refine pr_text_yes h ?_ ?_ (txt_1 hX hT hw hf e0 e1 e2 e3 hRt hFR hw1 hp hm) (fun τ g A rd hM hrd hmT => m_text1_ok hM hrd hmT hw ht rfl (hAU hmT) hp P0.2 hm)
        · split
          · exact putP_wT (tx_wT hw) (hwq m (Nat.le_refl _)) hplt.1 hplt.2
          · exact tx_wT hw
        · split
          · exact hf
          · exact hf
    · exact pr_text_no h (txN_o hX hT hw hs0 hs1) (fun τ g A hM hmT => m_txN_o hM hmT hw hs0 hs1)
end
end
