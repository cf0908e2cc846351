/-! Texts (reference): a line's start, nothing known of what was able before. -/
noncomputable section
def MSt0 (U : Nat → Nat) (n : Nat) (A0 A g : Nat → Int32) (s : Rs) : Prop := (∀ i, i ≠ 3 → i ≠ 4 → A i = A0 i) ∧ A 3 = (if Rw s = true then 1 else nI (Rf s)) ∧ A 4 = (if Rw s = true then nI (tS0 U n (Re s)) else Rp s) ∧ crs U n g (Re s) ∧ g 2 = nI n ∧ g 8 = (if Rw s = true then 1 else 0) ∧ True
section
variable {U : Nat → Nat} {n : Nat} {A0 A g : Nat → Int32} {s : Rs} {ab : Bool}
theorem MSt.m0 (h : MSt U n A0 A g s ab) : MSt0 U n A0 A g s := ⟨h.1, h.2.1, h.2.2.1, h.2.2.2.1, h.2.2.2.2.1, h.2.2.2.2.2.1, trivial⟩
theorem MSt0_ends (h : MSt0 U n A0 A g s) : MSt0 U n A0 (upd (upd A 3 1) 4 (nI (tS0 U n (Re s)))) (upd g 8 1) (true, Re s, Rf s, Rp s) := by
  obtain ⟨h1, h2, h3, h4, h5, h6, h7⟩ := h
  exact ⟨fun i a b => (pk_un b).trans ((pk_un a).trans (h1 i a b)), (pk_un (by decide)).trans pk_us, pk_us, ⟨h4.1, h4.2.1, h4.2.2.1, h4.2.2.2.1, h4.2.2.2.2⟩, h5, rfl, trivial⟩
theorem MSt0_same (h : MSt0 U n A0 A g s) (hw : Rw s = true) : MSt0 U n A0 A g (true, Re s, Rf s, Rp s) := by
  rw [Rs_w hw] at h
  exact h
theorem MSt0_ab {ab1 : Bool} {v : Int32} (h : MSt0 U n A0 A g s) (hv : v = if ab1 = true then 1 else 0) : MSt U n A0 A (upd g 9 v) s ab1 := by
  obtain ⟨h1, h2, h3, h4, h5, h6, h7⟩ := h
  exact ⟨h1, h2, h3, ⟨h4.1, h4.2.1, h4.2.2.1, h4.2.2.2.1, h4.2.2.2.2⟩, h5, h6, hv⟩
end
section
variable {Γ : ex_G} {σ : ex_S} {x q a p y : Nat} {S : Sch} {T : Tol} {P : Pln} {g A : Nat → Int32}
variable {U : Nat → Nat} {n : Nat} {A0 : Nat → Int32} {s : Rs} {ab : Bool}
theorem m_ends0_ok (m0 : σ.2 y = some (.inr (.inr (10, mo y g)))) (m_all : σ.2 (y + 1) = some (.inl (0, 4500, A))) (hst : MSt0 U n A0 A g s) : RetX Γ m_M_ends [.ref y] σ y (y + 2) none (fun τ => ∃ g1 A1 : Nat → Int32, τ.2 y = some (.inr (.inr (10, mo y g1))) ∧ τ.2 (y + 1) = some (.inl (0, 4500, A1)) ∧ MSt0 U n A0 A1 g1 (true, Re s, Rf s, Rp s)) := by
  unfold RetX
  generalize hQ : ((fun (r0 : Option Value) (τ : ex_S) => r0 = none ∧ frm σ τ y (y + 2) ∧ (fun τ : ex_S => ∃ g1 A1 : Nat → Int32, τ.2 y = some (.inr (.inr (10, mo y g1))) ∧ τ.2 (y + 1) = some (.inl (0, 4500, A1)) ∧ MSt0 U n A0 A1 g1 (true, Re s, Rf s, Rp s)) τ)) = Q
  refine Ret.start pm_172 rfl ?_
  have fr : frm σ σ y (y + 2) := frm.rf
  refine Ev.aload_n rfl rfl ?_
  refine Ev.getf rfl rfl m0 rfl ?_
  rw [hst.2.2.2.2.2.1]
  refine Ev.zeq (tgt := 8) rfl (by decide) (fun c4 => ?_) (fun c4 => ?_)
  · skip
    refine Ev.aload_n rfl rfl ?_
    refine Ev.iconst (v := 1) rfl (by decide) ?_
    refine Ev.putE rfl rfl m0 rfl rfl rfl (Nat.le_of_ble_eq_true rfl) (fun τ1 f1 q1 => ?_)
    have m0 : τ1.2 y = some (.inr (.inr (10, mo y (upd g 8 (1 : Int32))))) := q1
    have m_all := frm.cell f1 m_all (by omega)
    have fr := fr.step f1 (by omega) (by omega)
    refine Ev.aload_n rfl rfl ?_
    refine Ev.getf rfl rfl m0 rfl ?_
    refine Ev.iconst (v := 3) rfl (by decide) ?_
    refine Ev.iconst (v := 1) rfl (by decide) ?_
    refine Ev.iastE (k := 3) rfl m_all (rfl : (3 : Int32) = nI 3) ⟨(by omega), by decide⟩ (fun τ2 f1 m_all => ?_)
    have m0 := frm.cell f1 m0 (by omega)
    have fr := fr.step f1 (by omega) (by omega)
    refine Ev.aload_n rfl rfl ?_
    refine Ev.getf rfl rfl m0 rfl ?_
    refine Ev.iconst (v := 4) rfl (by decide) ?_
    refine Ev.aload_n rfl rfl ?_
    refine Ev.getf rfl rfl m0 rfl ?_
    rw [show (upd g 8 (1 : Int32)) 4 = g 4 from rfl]
    rw [hst.2.2.2.1.2.1]
    refine Ev.iastE (k := 4) rfl m_all (rfl : (4 : Int32) = nI 4) ⟨(by omega), by decide⟩ (fun τ3 f1 m_all => ?_)
    have m0 := frm.cell f1 m0 (by omega)
    have fr := fr.step f1 (by omega) (by omega)
    refine Ev.ret rfl rfl (Nat.le_refl _) (Nat.le_refl _) ?_
    have hst := MSt0_ends hst
    rw [← hQ]
    exact ⟨rfl, fr, _, _, m0, m_all, hst⟩
  · skip
    refine Ev.ret rfl rfl (Nat.le_refl _) (Nat.le_refl _) ?_
    have hst := MSt0_same hst (b01 c4)
    rw [← hQ]
    exact ⟨rfl, fr, _, _, m0, m_all, hst⟩
theorem m_takes0_y (m0 : σ.2 y = some (.inr (.inr (10, mo y g)))) (m_all : σ.2 (y + 1) = some (.inl (0, 4500, A))) (ht : txt U n) (hA0 : ∀ p, p < n → A0 (10 + p) = nI (U p)) (hst : MSt0 U n A0 A g s) (hok : Rok U n s) (hw : Rw s = false) {fi la : Nat} (hfl : fi ≤ 20 ∧ la ≤ 20) (hP : tK U n (Re s) = 3 ∧ fi ≤ tW U n (Re s) ∧ tW U n (Re s) ≤ la) : RetX Γ m_M_takes [.ref y, .int (nI fi), .int (nI la)] σ y (y + 2) (some (.int (nI (tW U n (Re s))))) (fun τ => ∃ g1 A1 : Nat → Int32, τ.2 y = some (.inr (.inr (10, mo y g1))) ∧ τ.2 (y + 1) = some (.inl (0, 4500, A1)) ∧ MSt U n A0 A1 g1 (false, tE U n (Re s), Rf s, Rp s) true) := by
  have hn6 := ht.1
  have hW : tW U n (Re s) ≤ 99 := by
    unfold tW
    split
    · rcases wdc_cases (wvl U (tS0 U n (Re s)) (tL U n (Re s) - tS0 U n (Re s))) with q | q <;> omega
    · omega
  unfold RetX
  generalize hQ : ((fun (r0 : Option Value) (τ : ex_S) => r0 = some (.int (nI (tW U n (Re s)))) ∧ frm σ τ y (y + 2) ∧ (fun τ : ex_S => ∃ g1 A1 : Nat → Int32, τ.2 y = some (.inr (.inr (10, mo y g1))) ∧ τ.2 (y + 1) = some (.inl (0, 4500, A1)) ∧ MSt U n A0 A1 g1 (false, tE U n (Re s), Rf s, Rp s) true) τ)) = Q
  refine Ret.start pm_175 rfl ?_
  have fr : frm σ σ y (y + 2) := frm.rf
  refine Ev.aload_n rfl rfl ?_
  refine Ev.getf rfl rfl m0 rfl ?_
  rw [hst.2.2.2.2.2.1]
  refine Ev.zne (tgt := 27) rfl (by decide) (fun c4 => absurd c4 (by rw [hw]; decide)) (fun c4 => ?_)
  refine Ev.aload_n rfl rfl ?_
  refine Ev.getf rfl rfl m0 rfl ?_
  rw [hst.2.2.2.1.2.2.1]
  refine Ev.iconst (v := 3) rfl (by decide) ?_
  refine Ev.jne (tgt := 27) rfl (by decide) (fun c12 => absurd (congrArg nI hP.1) c12) (fun c12 => ?_)
  have hk3 : tK U n (Re s) = 3 := nI_injL (b := 3) (by have := tK_le (U := U) (n := n) (e := Re s); omega) (by decide) c12
  refine Ev.aload_n rfl rfl ?_
  refine Ev.getf rfl rfl m0 rfl ?_
  rw [hst.2.2.2.1.2.2.2.2 hk3]
  refine Ev.iload_n rfl rfl ?_
  refine Ev.iload_n rfl rfl ?_
  refine Ev.cS3 rfl rfl rfl (by decide) ⟨(Nat.le_refl _), (Nat.le_refl _)⟩ (m_in_y (K_in_nn hP.2.1 hP.2.2 (by omega))) ?_
  refine Ev.zne (tgt := 33) rfl (by decide) (fun c24 => ?_) (fun c24 => absurd c24 (by decide))
  refine Ev.aload_n rfl rfl ?_
  refine Ev.getf rfl rfl m0 rfl ?_
  rw [hst.2.2.2.1.2.2.2.2 hk3]
  refine Ev.istore_n rfl rfl rfl ?_
  refine Ev.aload_n rfl rfl ?_
  refine Ev.iconst (v := 1) rfl (by decide) ?_
  refine Ev.putE rfl rfl m0 rfl rfl rfl (Nat.le_of_ble_eq_true rfl) (fun τ740 f1 q1 => ?_)
  have m0 : τ740.2 y = some (.inr (.inr (10, mo y (upd g 9 1)))) := q1
  have m_all := frm.cell f1 m_all (by omega)
  have fr := fr.step f1 (by omega) (by omega)
  have hst := MSt0_ab (ab1 := true) hst (show (1 : Int32) = _ from rfl)
  refine Ev.aload_n rfl rfl ?_
  have hM : isM _ y (upd g 9 1) A := ⟨m0, m_all⟩
  refine Ev.xV0u rfl rfl m0 rfl rfl (by decide) ⟨(Nat.le_refl _), (Nat.le_refl _)⟩ (m_adv_ok hM ht hst.2.2.2.2.1 (fun p hp => (hst.1 (10 + p) (by omega) (by omega)).trans (hA0 p hp)) (tE_le ht hok.1).2 hst.2.2.2.1.1) (fun τ88 f9 q9 => ?_)
  obtain ⟨g88, m0, hcr, hkk⟩ := q9
  have m_all := frm.cell f9 m_all (by omega)
  have hst := MSt_adv hst hw hcr hkk
  have fr := fr.step f9 (by omega) (by omega)
  refine Ev.iload_n rfl rfl ?_
  refine Ev.iret (ty := .int) rfl rfl rfl (Nat.le_refl _) (Nat.le_refl _) ?_
  rw [← hQ]
  exact ⟨rfl, fr, _, _, m0, m_all, hst⟩
theorem m_takes0_n (m0 : σ.2 y = some (.inr (.inr (10, mo y g)))) (m_all : σ.2 (y + 1) = some (.inl (0, 4500, A))) (ht : txt U n) (hA0 : ∀ p, p < n → A0 (10 + p) = nI (U p)) (hst : MSt0 U n A0 A g s) (hok : Rok U n s) (hw : Rw s = false) {fi la : Nat} (hfl : fi ≤ 20 ∧ la ≤ 20) (hP : ¬ (tK U n (Re s) = 3 ∧ fi ≤ tW U n (Re s) ∧ tW U n (Re s) ≤ la)) : RetX Γ m_M_takes [.ref y, .int (nI fi), .int (nI la)] σ y (y + 2) (some (.int 0)) (fun τ => ∃ g1 A1 : Nat → Int32, τ.2 y = some (.inr (.inr (10, mo y g1))) ∧ τ.2 (y + 1) = some (.inl (0, 4500, A1)) ∧ MSt0 U n A0 A1 g1 (true, Re s, Rf s, Rp s)) := by
  have hn6 := ht.1
  have hW : tW U n (Re s) ≤ 99 := by
    unfold tW
    split
    · rcases wdc_cases (wvl U (tS0 U n (Re s)) (tL U n (Re s) - tS0 U n (Re s))) with q | q <;> omega
    · omega
  unfold RetX
  generalize hQ : ((fun (r0 : Option Value) (τ : ex_S) => r0 = some (.int 0) ∧ frm σ τ y (y + 2) ∧ (fun τ : ex_S => ∃ g1 A1 : Nat → Int32, τ.2 y = some (.inr (.inr (10, mo y g1))) ∧ τ.2 (y + 1) = some (.inl (0, 4500, A1)) ∧ MSt0 U n A0 A1 g1 (true, Re s, Rf s, Rp s)) τ)) = Q
  refine Ret.start pm_175 rfl ?_
  have fr : frm σ σ y (y + 2) := frm.rf
  refine Ev.aload_n rfl rfl ?_
  refine Ev.getf rfl rfl m0 rfl ?_
  rw [hst.2.2.2.2.2.1]
  refine Ev.zne (tgt := 27) rfl (by decide) (fun c4 => absurd c4 (by rw [hw]; decide)) (fun c4 => ?_)
  refine Ev.aload_n rfl rfl ?_
  refine Ev.getf rfl rfl m0 rfl ?_
  rw [hst.2.2.2.1.2.2.1]
  refine Ev.iconst (v := 3) rfl (by decide) ?_
  refine Ev.jne (tgt := 27) rfl (by decide) (fun c12 => ?_) (fun c12 => ?_)
  · skip
    refine Ev.aload_n rfl rfl ?_
    refine Ev.xV0u rfl rfl m0 rfl rfl (by decide) ⟨(Nat.le_refl _), (Nat.le_refl _)⟩ (m_ends0_ok m0 m_all hst) (fun τ901 f9 q9 => ?_)
    obtain ⟨g901, A901, m0, m_all, hst⟩ := q9
    have fr := fr.step f9 (by omega) (by omega)
    refine Ev.iconst (v := 0) rfl (by decide) ?_
    refine Ev.iret (ty := .int) rfl rfl rfl (Nat.le_refl _) (Nat.le_refl _) ?_
    rw [← hQ]
    exact ⟨rfl, fr, _, _, m0, m_all, hst⟩
  · skip
    have hk3 : tK U n (Re s) = 3 := nI_injL (b := 3) (by have := tK_le (U := U) (n := n) (e := Re s); omega) (by decide) c12
    refine Ev.aload_n rfl rfl ?_
    refine Ev.getf rfl rfl m0 rfl ?_
    rw [hst.2.2.2.1.2.2.2.2 hk3]
    refine Ev.iload_n rfl rfl ?_
    refine Ev.iload_n rfl rfl ?_
    refine Ev.cS3 rfl rfl rfl (by decide) ⟨(Nat.le_refl _), (Nat.le_refl _)⟩ (m_in_n (K_in_nx (fun h => hP ⟨hk3, h⟩) (by omega) (by omega) (by omega))) ?_
    refine Ev.zne (tgt := 33) rfl (by decide) (fun c24 => absurd (by decide) c24) (fun c24 => ?_)
    refine Ev.aload_n rfl rfl ?_
    refine Ev.xV0u rfl rfl m0 rfl rfl (by decide) ⟨(Nat.le_refl _), (Nat.le_refl _)⟩ (m_ends0_ok m0 m_all hst) (fun τ902 f9 q9 => ?_)
    obtain ⟨g902, A902, m0, m_all, hst⟩ := q9
    have fr := fr.step f9 (by omega) (by omega)
    refine Ev.iconst (v := 0) rfl (by decide) ?_
    refine Ev.iret (ty := .int) rfl rfl rfl (Nat.le_refl _) (Nat.le_refl _) ?_
    rw [← hQ]
    exact ⟨rfl, fr, _, _, m0, m_all, hst⟩
theorem m_endsL0_ok (m0 : σ.2 y = some (.inr (.inr (10, mo y g)))) (m_all : σ.2 (y + 1) = some (.inl (0, 4500, A))) (hst : MSt0 U n A0 A g s) (hw : Rw s = true) : RetX Γ m_M_endsLine [.ref y] σ y (y + 2) none (fun τ => ∃ g1 A1 : Nat → Int32, τ.2 y = some (.inr (.inr (10, mo y g1))) ∧ τ.2 (y + 1) = some (.inl (0, 4500, A1)) ∧ MSt0 U n A0 A1 g1 (true, Re s, Rf s, Rp s)) := by
  unfold RetX
  generalize hQ : ((fun (r0 : Option Value) (τ : ex_S) => r0 = none ∧ frm σ τ y (y + 2) ∧ (fun τ : ex_S => ∃ g1 A1 : Nat → Int32, τ.2 y = some (.inr (.inr (10, mo y g1))) ∧ τ.2 (y + 1) = some (.inl (0, 4500, A1)) ∧ MSt0 U n A0 A1 g1 (true, Re s, Rf s, Rp s)) τ)) = Q
  refine Ret.start pm_176 rfl ?_
  have fr : frm σ σ y (y + 2) := frm.rf
  refine Ev.aload_n rfl rfl ?_
  refine Ev.getf rfl rfl m0 rfl ?_
  rw [hst.2.2.2.2.2.1]
  refine Ev.zne (tgt := 22) rfl (by decide) (fun c4 => ?_) (fun c4 => absurd c4 (by rw [hw]; decide))
  refine Ev.aload_n rfl rfl ?_
  refine Ev.xV0u rfl rfl m0 rfl rfl (by decide) ⟨(Nat.le_refl _), (Nat.le_refl _)⟩ (m_ends0_ok m0 m_all hst) (fun τ901 f9 q9 => ?_)
  obtain ⟨g901, A901, m0, m_all, hst⟩ := q9
  have fr := fr.step f9 (by omega) (by omega)
  refine Ev.ret rfl rfl (Nat.le_refl _) (Nat.le_refl _) ?_
  rw [← hQ]
  exact ⟨rfl, fr, _, _, m0, m_all, hst⟩
end
end
