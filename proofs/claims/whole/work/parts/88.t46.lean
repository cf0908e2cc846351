/-! Texts (reference): faults, numbers, words, a line's end. -/
noncomputable section
theorem K_in_nn {a b c : Nat} (h1 : b ≤ a) (h2 : a ≤ c) (hc : c < 2 ^ 30) : K_in (nI a) (nI b) (nI c) = 1 := by
  unfold K_in
  rw [if_neg (nI_nlt h1 (by omega)), if_neg (nI_nlt h2 (by omega))]
theorem K_in_nx {a b c : Nat} (h : ¬ (b ≤ a ∧ a ≤ c)) (ha : a < 2 ^ 30) (hb : b < 2 ^ 30) (hc : c < 2 ^ 30) : K_in (nI a) (nI b) (nI c) = 0 := by
  unfold K_in
  by_cases d : a < b
  · rw [if_pos (nI_lt d (by omega))]
  · rw [if_neg (nI_nlt (by omega) (by omega)), if_pos (nI_lt (show c < a by omega) (by omega))]
theorem K_in_G {lo hi : Nat} (h : lo < 2 ^ 30 ∧ hi < 2 ^ 30) : ∀ v, v ≤ 999 → K_in (nI v) (nI lo) (nI hi) = if (decide (lo ≤ v) && decide (v ≤ hi)) = true then 1 else 0 := by
  intro v hv
  by_cases c : lo ≤ v ∧ v ≤ hi
  · rw [K_in_nn c.1 c.2 h.2, if_pos (by simp [c.1, c.2])]
  · rw [K_in_nx c (by omega) h.1 h.2, if_neg (fun q => c (by simpa using q))]
section
variable {Γ : ex_G} {σ : ex_S} {x q a p y : Nat} {S : Sch} {T : Tol} {P : Pln} {g A : Nat → Int32}
variable {U : Nat → Nat} {n : Nat} {A0 : Nat → Int32} {s : Rs} {ab : Bool}
theorem m_ends_ok (m0 : σ.2 y = some (.inr (.inr (10, mo y g)))) (m_all : σ.2 (y + 1) = some (.inl (0, 4500, A))) (hst : MSt U n A0 A g s ab) : RetX Γ m_M_ends [.ref y] σ y (y + 2) none (fun τ => ∃ g1 A1 : Nat → Int32, τ.2 y = some (.inr (.inr (10, mo y g1))) ∧ τ.2 (y + 1) = some (.inl (0, 4500, A1)) ∧ MSt U n A0 A1 g1 (true, Re s, Rf s, Rp s) ab) := by
  unfold RetX
  generalize hQ : ((fun (r0 : Option Value) (τ : ex_S) => r0 = none ∧ frm σ τ y (y + 2) ∧ (fun τ : ex_S => ∃ g1 A1 : Nat → Int32, τ.2 y = some (.inr (.inr (10, mo y g1))) ∧ τ.2 (y + 1) = some (.inl (0, 4500, A1)) ∧ MSt U n A0 A1 g1 (true, Re s, Rf s, Rp s) ab) τ)) = Q
  refine Ret.start pm_172 rfl ?_
  have fr : frm σ σ y (y + 2) := frm.rf
  refine Ev.aload_n rfl rfl ?_
  refine Ev.getf rfl rfl m0 rfl ?_
  rw [hst.2.2.2.2.2.1]
  refine Ev.zeq (tgt := 8) rfl (by decide) (fun c4 => ?_) (fun c4 => ?_)
  · skip
    refine Ev.aload_n rfl rfl ?_
    refine Ev.iconst (v := 1) rfl (by decide) ?_
    refine Ev.putE rfl rfl m0 rfl rfl rfl (Nat.le_of_ble_eq_true rfl) (fun τ1 f1 q1 => ?_)
    have m0 : τ1.2 y = some (.inr (.inr (10, mo y (upd g 8 (1 : Int32))))) := q1
    have m_all := frm.cell f1 m_all (by omega)
    have fr := fr.step f1 (by omega) (by omega)
    refine Ev.aload_n rfl rfl ?_
    refine Ev.getf rfl rfl m0 rfl ?_
    refine Ev.iconst (v := 3) rfl (by decide) ?_
    refine Ev.iconst (v := 1) rfl (by decide) ?_
    refine Ev.iastE (k := 3) rfl m_all (rfl : (3 : Int32) = nI 3) ⟨(by omega), by decide⟩ (fun τ2 f1 m_all => ?_)
    have m0 := frm.cell f1 m0 (by omega)
    have fr := fr.step f1 (by omega) (by omega)
    refine Ev.aload_n rfl rfl ?_
    refine Ev.getf rfl rfl m0 rfl ?_
    refine Ev.iconst (v := 4) rfl (by decide) ?_
    refine Ev.aload_n rfl rfl ?_
    refine Ev.getf rfl rfl m0 rfl ?_
    rw [show (upd g 8 (1 : Int32)) 4 = g 4 from rfl]
    rw [hst.2.2.2.1.2.1]
    refine Ev.iastE (k := 4) rfl m_all (rfl : (4 : Int32) = nI 4) ⟨(by omega), by decide⟩ (fun τ3 f1 m_all => ?_)
    have m0 := frm.cell f1 m0 (by omega)
    have fr := fr.step f1 (by omega) (by omega)
    refine Ev.ret rfl rfl (Nat.le_refl _) (Nat.le_refl _) ?_
    have hst := MSt_ends hst
    rw [← hQ]
    exact ⟨rfl, fr, _, _, m0, m_all, hst⟩
  · skip
    refine Ev.ret rfl rfl (Nat.le_refl _) (Nat.le_refl _) ?_
    have hst := MSt_same hst (b01 c4)
    rw [← hQ]
    exact ⟨rfl, fr, _, _, m0, m_all, hst⟩
theorem m_also_ok (m0 : σ.2 y = some (.inr (.inr (10, mo y g)))) (m_all : σ.2 (y + 1) = some (.inl (0, 4500, A))) (hst : MSt U n A0 A g s ab) (hf4 : Rf s ≤ 4) {k a : Nat} (hk : k ≤ 4) (ha : a ≤ 600) (ho : Rw s = false → ¬ Rf s = 0 → ∃ q, Rp s = nI q ∧ (q < a ∨ q = a ∧ Rf s ≤ k)) : RetX Γ m_M_also [.ref y, .int (nI k), .int (nI a)] σ y (y + 2) none (fun τ => ∃ g1 A1 : Nat → Int32, τ.2 y = some (.inr (.inr (10, mo y g1))) ∧ τ.2 (y + 1) = some (.inl (0, 4500, A1)) ∧ MSt U n A0 A1 g1 (rnt s k a) ab) := by
  unfold RetX
  generalize hQ : ((fun (r0 : Option Value) (τ : ex_S) => r0 = none ∧ frm σ τ y (y + 2) ∧ (fun τ : ex_S => ∃ g1 A1 : Nat → Int32, τ.2 y = some (.inr (.inr (10, mo y g1))) ∧ τ.2 (y + 1) = some (.inl (0, 4500, A1)) ∧ MSt U n A0 A1 g1 (rnt s k a) ab) τ)) = Q
  refine Ret.start pm_173 rfl ?_
  have fr : frm σ σ y (y + 2) := frm.rf
  refine Ev.aload_n rfl rfl ?_
  refine Ev.getf rfl rfl m0 rfl ?_
  rw [hst.2.2.2.2.2.1]
  refine Ev.zne (tgt := 46) rfl (by decide) (fun c4 => ?_) (fun c4 => ?_)
  · skip
    refine Ev.ret rfl rfl (Nat.le_refl _) (Nat.le_refl _) ?_
    have hst := MSt_also_n (k := k) (a := a) hst (Or.inl (b01 c4))
    rw [← hQ]
    exact ⟨rfl, fr, _, _, m0, m_all, hst⟩
  · skip
    have hw := b00 c4
    refine Ev.aload_n rfl rfl ?_
    refine Ev.getf rfl rfl m0 rfl ?_
    refine Ev.iconst (v := 3) rfl (by decide) ?_
    refine Ev.ialdN (k := 3) rfl m_all (rfl : (3 : Int32) = nI 3) ⟨(by omega), by decide⟩ ?_
    refine Ev.zeq (tgt := 47) rfl (by decide) (fun c13 => ?_) (fun c13 => ?_)
    · skip
      have hf : Rf s = 0 := by
        rw [hst.2.1, hw, if_neg (fun h => (nomatch h))] at c13
        exact nI_injL (b := 0) (by omega) (by decide) c13
      refine Ev.aload_n rfl rfl ?_
      refine Ev.getf rfl rfl m0 rfl ?_
      refine Ev.iconst (v := 3) rfl (by decide) ?_
      refine Ev.iload_n rfl rfl ?_
      refine Ev.iastE (k := 3) rfl m_all (rfl : (3 : Int32) = nI 3) ⟨(by omega), by decide⟩ (fun τ1 f1 m_all => ?_)
      have m0 := frm.cell f1 m0 (by omega)
      have fr := fr.step f1 (by omega) (by omega)
      refine Ev.aload_n rfl rfl ?_
      refine Ev.getf rfl rfl m0 rfl ?_
      refine Ev.iconst (v := 4) rfl (by decide) ?_
      refine Ev.iload_n rfl rfl ?_
      refine Ev.iastE (k := 4) rfl m_all (rfl : (4 : Int32) = nI 4) ⟨(by omega), by decide⟩ (fun τ2 f1 m_all => ?_)
      have m0 := frm.cell f1 m0 (by omega)
      have fr := fr.step f1 (by omega) (by omega)
      refine Ev.ret rfl rfl (Nat.le_refl _) (Nat.le_refl _) ?_
      have hst := MSt_also (k := k) (a := a) hst hw hf
      rw [← hQ]
      exact ⟨rfl, fr, _, _, m0, m_all, hst⟩
    · skip
      have hf : ¬ Rf s = 0 := fun h => c13 (by rw [hst.2.1, hw, if_neg (fun h => (nomatch h)), h]; rfl)
      refine Ev.aload_n rfl rfl ?_
      refine Ev.getf rfl rfl m0 rfl ?_
      refine Ev.iconst (v := 4) rfl (by decide) ?_
      refine Ev.ialdN (k := 4) rfl m_all (rfl : (4 : Int32) = nI 4) ⟨(by omega), by decide⟩ ?_
      refine Ev.iload_n rfl rfl ?_
      refine Ev.jlt (tgt := 46) rfl (by decide) (fun c23 => ?_) (fun c23 => ?_)
      · skip
        refine Ev.ret rfl rfl (Nat.le_refl _) (Nat.le_refl _) ?_
        have hst := MSt_also_n (k := k) (a := a) hst (Or.inr hf)
        rw [← hQ]
        exact ⟨rfl, fr, _, _, m0, m_all, hst⟩
      · skip
        refine Ev.aload_n rfl rfl ?_
        refine Ev.getf rfl rfl m0 rfl ?_
        refine Ev.iconst (v := 4) rfl (by decide) ?_
        refine Ev.ialdN (k := 4) rfl m_all (rfl : (4 : Int32) = nI 4) ⟨(by omega), by decide⟩ ?_
        refine Ev.iload_n rfl rfl ?_
        refine Ev.jne (tgt := 47) rfl (by decide) (fun c33 => ?_) (fun c33 => ?_)
        · skip
          exfalso
          obtain ⟨q, q1, q2⟩ := ho hw hf
          rw [hst.2.2.1, hw, if_neg (fun h => (nomatch h)), q1] at c23 c33
          rcases q2 with q2 | ⟨q2, q3⟩
          · exact c23 (nI_lt q2 (by omega))
          · exact c33 (congrArg nI q2)
        · skip
          refine Ev.aload_n rfl rfl ?_
          refine Ev.getf rfl rfl m0 rfl ?_
          refine Ev.iconst (v := 3) rfl (by decide) ?_
          refine Ev.ialdN (k := 3) rfl m_all (rfl : (3 : Int32) = nI 3) ⟨(by omega), by decide⟩ ?_
          refine Ev.iload_n rfl rfl ?_
          refine Ev.jgt (tgt := 47) rfl (by decide) (fun c43 => ?_) (fun c43 => ?_)
          · skip
            exfalso
            obtain ⟨q, q1, q2⟩ := ho hw hf
            rw [hst.2.2.1, hw, if_neg (fun h => (nomatch h)), q1] at c23 c33
            rw [hst.2.1, hw, if_neg (fun h => (nomatch h))] at c43
            rcases q2 with q2 | ⟨q2, q3⟩
            · exact c23 (nI_lt q2 (by omega))
            · exact absurd c43 (nI_nlt q3 (by omega))
          · skip
            refine Ev.ret rfl rfl (Nat.le_refl _) (Nat.le_refl _) ?_
            have hst := MSt_also_n (k := k) (a := a) hst (Or.inr hf)
            rw [← hQ]
            exact ⟨rfl, fr, _, _, m0, m_all, hst⟩
theorem m_numb_ok (m0 : σ.2 y = some (.inr (.inr (10, mo y g)))) (m_all : σ.2 (y + 1) = some (.inl (0, 4500, A))) (ht : txt U n) (hA0 : ∀ p, p < n → A0 (10 + p) = nI (U p)) (hst : MSt U n A0 A g s ab) (hok : Rok U n s) {lo : Nat} {hi : Int32} {G : Nat → Bool} (hG0 : ∀ v, v ≤ 999 → K_in (nI v) (nI lo) hi = if G v = true then 1 else 0) : RetX Γ m_M_numbered [.ref y, .int (nI lo), .int hi] σ y (y + 2) (some (.int (nI (rvl U n lo G s)))) (fun τ => ∃ g1 A1 : Nat → Int32, τ.2 y = some (.inr (.inr (10, mo y g1))) ∧ τ.2 (y + 1) = some (.inl (0, 4500, A1)) ∧ MSt U n A0 A1 g1 (nst U n (G (tV U n (Re s))) s) (rab U n G ab s)) := by
  have hn6 := ht.1
  unfold RetX
  generalize hQ : ((fun (r0 : Option Value) (τ : ex_S) => r0 = some (.int (nI (rvl U n lo G s))) ∧ frm σ τ y (y + 2) ∧ (fun τ : ex_S => ∃ g1 A1 : Nat → Int32, τ.2 y = some (.inr (.inr (10, mo y g1))) ∧ τ.2 (y + 1) = some (.inl (0, 4500, A1)) ∧ MSt U n A0 A1 g1 (nst U n (G (tV U n (Re s))) s) (rab U n G ab s)) τ)) = Q
  refine Ret.start pm_174 rfl ?_
  have fr : frm σ σ y (y + 2) := frm.rf
  refine Ev.aload_n rfl rfl ?_
  refine Ev.getf rfl rfl m0 rfl ?_
  rw [hst.2.2.2.2.2.1]
  refine Ev.zne (tgt := 15) rfl (by decide) (fun c4 => ?_) (fun c4 => ?_)
  · skip
    refine Ev.aload_n rfl rfl ?_
    refine Ev.xV0u rfl rfl m0 rfl rfl (by decide) ⟨(Nat.le_refl _), (Nat.le_refl _)⟩ (m_ends_ok m0 m_all hst) (fun τ901 f9 q9 => ?_)
    obtain ⟨g901, A901, m0, m_all, hst⟩ := q9
    have fr := fr.step f9 (by omega) (by omega)
    refine Ev.iload_n rfl rfl ?_
    refine Ev.iret (ty := .int) rfl rfl rfl (Nat.le_refl _) (Nat.le_refl _) ?_
    have hx : Rw s = true ∨ ¬ tK U n (Re s) = 1 := by first | exact Or.inl (b01 c4) | exact Or.inr (fun h => c12 (congrArg nI h))
    rw [show nst U n (G (tV U n (Re s))) s = _ from nst_w hx, show rvl U n lo G s = lo from if_pos hx, show rab U n G ab s = ab from if_pos hx] at hQ
    rw [← hQ]
    exact ⟨rfl, fr, _, _, m0, m_all, hst⟩
  · skip
    have hw := b00 c4
    refine Ev.aload_n rfl rfl ?_
    refine Ev.getf rfl rfl m0 rfl ?_
    rw [hst.2.2.2.1.2.2.1]
    refine Ev.iconst (v := 1) rfl (by decide) ?_
    refine Ev.jeq (tgt := 21) rfl (by decide) (fun c12 => ?_) (fun c12 => ?_)
    · skip
      have hk1 : tK U n (Re s) = 1 := nI_injL (b := 1) (by have := tK_le (U := U) (n := n) (e := Re s); omega) (by decide) c12
      refine Ev.aload_n rfl rfl ?_
      refine Ev.getf rfl rfl m0 rfl ?_
      rw [hst.2.2.2.1.2.2.2.1 hk1]
      refine Ev.istore_n rfl rfl rfl ?_
      refine Ev.iload_n rfl rfl ?_
      refine Ev.iload_n rfl rfl ?_
      refine Ev.iload_n rfl rfl ?_
      refine Ev.cS3 rfl rfl rfl (by decide) ⟨(Nat.le_refl _), (Nat.le_refl _)⟩ (m_in_ok _ _ _) ?_
      rw [hG0 _ (tV_le ht hok.1 hk1)]
      refine Ev.istore rfl rfl rfl ?_
      by_cases hG : G (tV U n (Re s)) = true
      · skip
        refine Ev.fg (L := [some (.ref y), some (.int (nI lo)), some (.int hi), some (.int (nI (tV U n (Re (true, Re s, Rf s, Rp s))))), some (.int (1 : Int32))]) ?_ (gs rfl (gs rfl (gs rfl (gs rfl (gs (by rw [if_pos hG]) gz)))))
        refine Ev.aload_n rfl rfl ?_
        refine Ev.aload_n rfl rfl ?_
        refine Ev.getf rfl rfl m0 rfl ?_
        rw [hst.2.2.2.2.2.2]
        refine Ev.zeq (tgt := 51) rfl (by decide) (fun c39 => ?_) (fun c39 => ?_)
        · skip
          refine Ev.iconst (v := 0) rfl (by decide) ?_
          refine Ev.putE rfl rfl m0 rfl rfl rfl (Nat.le_of_ble_eq_true rfl) (fun τ702 f1 q1 => ?_)
          have m0 : τ702.2 y = some (.inr (.inr (10, mo y (upd g 9 (0 : Int32))))) := q1
          have m_all := frm.cell f1 m_all (by omega)
          have fr := fr.step f1 (by omega) (by omega)
          have hst := MSt_ab (ab1 := ab && G (tV U n (Re s))) hst (show (0 : Int32) = _ from by rw [b00 c39]; rfl)
          refine Ev.iload rfl rfl ?_
          refine Ev.zne (tgt := 69) rfl (by decide) (fun c57 => ?_) (fun c57 => absurd c57 (by decide))
          refine Ev.aload_n rfl rfl ?_
          have hM : isM _ y (upd g 9 (0 : Int32)) A := ⟨m0, m_all⟩
          refine Ev.xV0u rfl rfl m0 rfl rfl (by decide) ⟨(Nat.le_refl _), (Nat.le_refl _)⟩ (m_adv_ok hM ht hst.2.2.2.2.1 (fun p hp => (hst.1 (10 + p) (by omega) (by omega)).trans (hA0 p hp)) (tE_le ht hok.1).2 hst.2.2.2.1.1) (fun τ88 f9 q9 => ?_)
          obtain ⟨g88, m0, hcr, hkk⟩ := q9
          have m_all := frm.cell f9 m_all (by omega)
          have hst := MSt_adv hst hw hcr hkk
          have fr := fr.step f9 (by omega) (by omega)
          refine Ev.iload rfl rfl ?_
          refine Ev.zeq (tgt := 82) rfl (by decide) (fun c75 => absurd c75 (by decide)) (fun c75 => ?_)
          refine Ev.iload_n rfl rfl ?_
          refine Ev.goto (tgt := 83) rfl (by decide) ?_
          refine Ev.iret (ty := .int) rfl rfl rfl (Nat.le_refl _) (Nat.le_refl _) ?_
          have hx : ¬ (Rw s = true ∨ ¬ tK U n (Re s) = 1) := fun h => h.elim (fun h => by rw [hw] at h; cases h) (fun h => h hk1)
          rw [show nst U n (G (tV U n (Re s))) s = (false, tE U n (Re s), Rf s, Rp s) from by rw [hG]; exact nst_good hw hk1, show rvl U n lo G s = tV U n (Re s) from (if_neg hx).trans (if_pos hG), show rab U n G ab s = (ab && G (tV U n (Re s))) from if_neg hx] at hQ
          rw [← hQ]
          exact ⟨rfl, fr, _, _, m0, m_all, hst⟩
        · skip
          refine Ev.iload rfl rfl ?_
          refine Ev.zeq (tgt := 51) rfl (by decide) (fun c44 => absurd c44 (by decide)) (fun c44 => ?_)
          refine Ev.iconst (v := 1) rfl (by decide) ?_
          refine Ev.goto (tgt := 52) rfl (by decide) ?_
          refine Ev.putE rfl rfl m0 rfl rfl rfl (Nat.le_of_ble_eq_true rfl) (fun τ703 f1 q1 => ?_)
          have m0 : τ703.2 y = some (.inr (.inr (10, mo y (upd g 9 (1 : Int32))))) := q1
          have m_all := frm.cell f1 m_all (by omega)
          have fr := fr.step f1 (by omega) (by omega)
          have hst := MSt_ab (ab1 := ab && G (tV U n (Re s))) hst (show (1 : Int32) = _ from by rw [hG, Bool.and_true, b01 c39]; rfl)
          refine Ev.iload rfl rfl ?_
          refine Ev.zne (tgt := 69) rfl (by decide) (fun c57 => ?_) (fun c57 => absurd c57 (by decide))
          refine Ev.aload_n rfl rfl ?_
          have hM : isM _ y (upd g 9 (1 : Int32)) A := ⟨m0, m_all⟩
          refine Ev.xV0u rfl rfl m0 rfl rfl (by decide) ⟨(Nat.le_refl _), (Nat.le_refl _)⟩ (m_adv_ok hM ht hst.2.2.2.2.1 (fun p hp => (hst.1 (10 + p) (by omega) (by omega)).trans (hA0 p hp)) (tE_le ht hok.1).2 hst.2.2.2.1.1) (fun τ88 f9 q9 => ?_)
          obtain ⟨g88, m0, hcr, hkk⟩ := q9
          have m_all := frm.cell f9 m_all (by omega)
          have hst := MSt_adv hst hw hcr hkk
          have fr := fr.step f9 (by omega) (by omega)
          refine Ev.iload rfl rfl ?_
          refine Ev.zeq (tgt := 82) rfl (by decide) (fun c75 => absurd c75 (by decide)) (fun c75 => ?_)
          refine Ev.iload_n rfl rfl ?_
          refine Ev.goto (tgt := 83) rfl (by decide) ?_
          refine Ev.iret (ty := .int) rfl rfl rfl (Nat.le_refl _) (Nat.le_refl _) ?_
          have hx : ¬ (Rw s = true ∨ ¬ tK U n (Re s) = 1) := fun h => h.elim (fun h => by rw [hw] at h; cases h) (fun h => h hk1)
          rw [show nst U n (G (tV U n (Re s))) s = (false, tE U n (Re s), Rf s, Rp s) from by rw [hG]; exact nst_good hw hk1, show rvl U n lo G s = tV U n (Re s) from (if_neg hx).trans (if_pos hG), show rab U n G ab s = (ab && G (tV U n (Re s))) from if_neg hx] at hQ
          rw [← hQ]
          exact ⟨rfl, fr, _, _, m0, m_all, hst⟩
      · skip
        refine Ev.fg (L := [some (.ref y), some (.int (nI lo)), some (.int hi), some (.int (nI (tV U n (Re (true, Re s, Rf s, Rp s))))), some (.int (0 : Int32))]) ?_ (gs rfl (gs rfl (gs rfl (gs rfl (gs (by rw [if_neg hG]) gz)))))
        refine Ev.aload_n rfl rfl ?_
        refine Ev.aload_n rfl rfl ?_
        refine Ev.getf rfl rfl m0 rfl ?_
        rw [hst.2.2.2.2.2.2]
        refine Ev.zeq (tgt := 51) rfl (by decide) (fun c39 => ?_) (fun c39 => ?_)
        · skip
          refine Ev.iconst (v := 0) rfl (by decide) ?_
          refine Ev.putE rfl rfl m0 rfl rfl rfl (Nat.le_of_ble_eq_true rfl) (fun τ702 f1 q1 => ?_)
          have m0 : τ702.2 y = some (.inr (.inr (10, mo y (upd g 9 (0 : Int32))))) := q1
          have m_all := frm.cell f1 m_all (by omega)
          have fr := fr.step f1 (by omega) (by omega)
          have hst := MSt_ab (ab1 := ab && G (tV U n (Re s))) hst (show (0 : Int32) = _ from by rw [b00 c39]; rfl)
          refine Ev.iload rfl rfl ?_
          refine Ev.zne (tgt := 69) rfl (by decide) (fun c57 => absurd (by decide) c57) (fun c57 => ?_)
          refine Ev.aload_n rfl rfl ?_
          refine Ev.iconst (v := 2) rfl (by decide) ?_
          refine Ev.aload_n rfl rfl ?_
          refine Ev.getf rfl rfl m0 rfl ?_
          rw [hst.2.2.2.1.2.1]
          refine Ev.xV2u rfl rfl m0 rfl rfl (by decide) ⟨(Nat.le_refl _), (Nat.le_refl _)⟩ (m_also_ok (k := 2) m0 m_all hst hok.2.1 (by decide) (by have := tS0_le ht hok.1; have := ht.1; omega) (fun a b => by obtain ⟨q, q1, q2⟩ := hok.2.2 a b; exact ⟨q, q1, Or.inl q2⟩)) (fun τ903 f9 q9 => ?_)
          obtain ⟨g903, A903, m0, m_all, hst⟩ := q9
          have fr := fr.step f9 (by omega) (by omega)
          refine Ev.aload_n rfl rfl ?_
          have hM : isM _ y g903 A903 := ⟨m0, m_all⟩
          refine Ev.xV0u rfl rfl m0 rfl rfl (by decide) ⟨(Nat.le_refl _), (Nat.le_refl _)⟩ (m_adv_ok hM ht hst.2.2.2.2.1 (fun p hp => (hst.1 (10 + p) (by omega) (by omega)).trans (hA0 p hp)) (tE_le ht (show Re (rnt s 2 (tS0 U n (Re s))) ≤ n by rw [rnt_e]; exact hok.1)).2 hst.2.2.2.1.1) (fun τ88 f9 q9 => ?_)
          obtain ⟨g88, m0, hcr, hkk⟩ := q9
          have m_all := frm.cell f9 m_all (by omega)
          have hst := MSt_adv hst (rnt_w.trans hw) hcr hkk
          have fr := fr.step f9 (by omega) (by omega)
          refine Ev.iload rfl rfl ?_
          refine Ev.zeq (tgt := 82) rfl (by decide) (fun c75 => ?_) (fun c75 => absurd (by decide) c75)
          refine Ev.iload_n rfl rfl ?_
          refine Ev.iret (ty := .int) rfl rfl rfl (Nat.le_refl _) (Nat.le_refl _) ?_
          have hx : ¬ (Rw s = true ∨ ¬ tK U n (Re s) = 1) := fun h => h.elim (fun h => by rw [hw] at h; cases h) (fun h => h hk1)
          rw [show nst U n (G (tV U n (Re s))) s = (false, tE U n (Re s), Rf (rnt s 2 (tS0 U n (Re s))), Rp (rnt s 2 (tS0 U n (Re s)))) from by rw [show G (tV U n (Re s)) = false by simpa using hG]; exact nst_bad hw hk1, show rvl U n lo G s = lo from (if_neg hx).trans (if_neg hG), show rab U n G ab s = (ab && G (tV U n (Re s))) from if_neg hx] at hQ
          rw [rnt_e] at hst
          rw [← hQ]
          exact ⟨rfl, fr, _, _, m0, m_all, hst⟩
        · skip
          refine Ev.iload rfl rfl ?_
          refine Ev.zeq (tgt := 51) rfl (by decide) (fun c44 => ?_) (fun c44 => absurd (by decide) c44)
          refine Ev.iconst (v := 0) rfl (by decide) ?_
          refine Ev.putE rfl rfl m0 rfl rfl rfl (Nat.le_of_ble_eq_true rfl) (fun τ704 f1 q1 => ?_)
          have m0 : τ704.2 y = some (.inr (.inr (10, mo y (upd g 9 (0 : Int32))))) := q1
          have m_all := frm.cell f1 m_all (by omega)
          have fr := fr.step f1 (by omega) (by omega)
          have hst := MSt_ab (ab1 := ab && G (tV U n (Re s))) hst (show (0 : Int32) = _ from by rw [show G (tV U n (Re s)) = false by simpa using hG, Bool.and_false]; rfl)
          refine Ev.iload rfl rfl ?_
          refine Ev.zne (tgt := 69) rfl (by decide) (fun c57 => absurd (by decide) c57) (fun c57 => ?_)
          refine Ev.aload_n rfl rfl ?_
          refine Ev.iconst (v := 2) rfl (by decide) ?_
          refine Ev.aload_n rfl rfl ?_
          refine Ev.getf rfl rfl m0 rfl ?_
          rw [hst.2.2.2.1.2.1]
          refine Ev.xV2u rfl rfl m0 rfl rfl (by decide) ⟨(Nat.le_refl _), (Nat.le_refl _)⟩ (m_also_ok (k := 2) m0 m_all hst hok.2.1 (by decide) (by have := tS0_le ht hok.1; have := ht.1; omega) (fun a b => by obtain ⟨q, q1, q2⟩ := hok.2.2 a b; exact ⟨q, q1, Or.inl q2⟩)) (fun τ905 f9 q9 => ?_)
          obtain ⟨g905, A905, m0, m_all, hst⟩ := q9
          have fr := fr.step f9 (by omega) (by omega)
          refine Ev.aload_n rfl rfl ?_
          have hM : isM _ y g905 A905 := ⟨m0, m_all⟩
          refine Ev.xV0u rfl rfl m0 rfl rfl (by decide) ⟨(Nat.le_refl _), (Nat.le_refl _)⟩ (m_adv_ok hM ht hst.2.2.2.2.1 (fun p hp => (hst.1 (10 + p) (by omega) (by omega)).trans (hA0 p hp)) (tE_le ht (show Re (rnt s 2 (tS0 U n (Re s))) ≤ n by rw [rnt_e]; exact hok.1)).2 hst.2.2.2.1.1) (fun τ88 f9 q9 => ?_)
          obtain ⟨g88, m0, hcr, hkk⟩ := q9
          have m_all := frm.cell f9 m_all (by omega)
          have hst := MSt_adv hst (rnt_w.trans hw) hcr hkk
          have fr := fr.step f9 (by omega) (by omega)
          refine Ev.iload rfl rfl ?_
          refine Ev.zeq (tgt := 82) rfl (by decide) (fun c75 => ?_) (fun c75 => absurd (by decide) c75)
          refine Ev.iload_n rfl rfl ?_
          refine Ev.iret (ty := .int) rfl rfl rfl (Nat.le_refl _) (Nat.le_refl _) ?_
          have hx : ¬ (Rw s = true ∨ ¬ tK U n (Re s) = 1) := fun h => h.elim (fun h => by rw [hw] at h; cases h) (fun h => h hk1)
          rw [show nst U n (G (tV U n (Re s))) s = (false, tE U n (Re s), Rf (rnt s 2 (tS0 U n (Re s))), Rp (rnt s 2 (tS0 U n (Re s)))) from by rw [show G (tV U n (Re s)) = false by simpa using hG]; exact nst_bad hw hk1, show rvl U n lo G s = lo from (if_neg hx).trans (if_neg hG), show rab U n G ab s = (ab && G (tV U n (Re s))) from if_neg hx] at hQ
          rw [rnt_e] at hst
          rw [← hQ]
          exact ⟨rfl, fr, _, _, m0, m_all, hst⟩
    · skip
      refine Ev.aload_n rfl rfl ?_
      refine Ev.xV0u rfl rfl m0 rfl rfl (by decide) ⟨(Nat.le_refl _), (Nat.le_refl _)⟩ (m_ends_ok m0 m_all hst) (fun τ902 f9 q9 => ?_)
      obtain ⟨g902, A902, m0, m_all, hst⟩ := q9
      have fr := fr.step f9 (by omega) (by omega)
      refine Ev.iload_n rfl rfl ?_
      refine Ev.iret (ty := .int) rfl rfl rfl (Nat.le_refl _) (Nat.le_refl _) ?_
      have hx : Rw s = true ∨ ¬ tK U n (Re s) = 1 := by first | exact Or.inl (b01 c4) | exact Or.inr (fun h => c12 (congrArg nI h))
      rw [show nst U n (G (tV U n (Re s))) s = _ from nst_w hx, show rvl U n lo G s = lo from if_pos hx, show rab U n G ab s = ab from if_pos hx] at hQ
      rw [← hQ]
      exact ⟨rfl, fr, _, _, m0, m_all, hst⟩
theorem m_takes_y (m0 : σ.2 y = some (.inr (.inr (10, mo y g)))) (m_all : σ.2 (y + 1) = some (.inl (0, 4500, A))) (ht : txt U n) (hA0 : ∀ p, p < n → A0 (10 + p) = nI (U p)) (hst : MSt U n A0 A g s ab) (hok : Rok U n s) (hw : Rw s = false) {fi la : Nat} (hfl : fi ≤ 20 ∧ la ≤ 20) (hP : tK U n (Re s) = 3 ∧ fi ≤ tW U n (Re s) ∧ tW U n (Re s) ≤ la) : RetX Γ m_M_takes [.ref y, .int (nI fi), .int (nI la)] σ y (y + 2) (some (.int (nI (tW U n (Re s))))) (fun τ => ∃ g1 A1 : Nat → Int32, τ.2 y = some (.inr (.inr (10, mo y g1))) ∧ τ.2 (y + 1) = some (.inl (0, 4500, A1)) ∧ MSt U n A0 A1 g1 (false, tE U n (Re s), Rf s, Rp s) true) := by
  have hn6 := ht.1
  have hW : tW U n (Re s) ≤ 99 := by
    unfold tW
    split
    · rcases wdc_cases (wvl U (tS0 U n (Re s)) (tL U n (Re s) - tS0 U n (Re s))) with q | q <;> omega
    · omega
  unfold RetX
  generalize hQ : ((fun (r0 : Option Value) (τ : ex_S) => r0 = some (.int (nI (tW U n (Re s)))) ∧ frm σ τ y (y + 2) ∧ (fun τ : ex_S => ∃ g1 A1 : Nat → Int32, τ.2 y = some (.inr (.inr (10, mo y g1))) ∧ τ.2 (y + 1) = some (.inl (0, 4500, A1)) ∧ MSt U n A0 A1 g1 (false, tE U n (Re s), Rf s, Rp s) true) τ)) = Q
  refine Ret.start pm_175 rfl ?_
  have fr : frm σ σ y (y + 2) := frm.rf
  refine Ev.aload_n rfl rfl ?_
  refine Ev.getf rfl rfl m0 rfl ?_
  rw [hst.2.2.2.2.2.1]
  refine Ev.zne (tgt := 27) rfl (by decide) (fun c4 => absurd c4 (by rw [hw]; decide)) (fun c4 => ?_)
  refine Ev.aload_n rfl rfl ?_
  refine Ev.getf rfl rfl m0 rfl ?_
  rw [hst.2.2.2.1.2.2.1]
  refine Ev.iconst (v := 3) rfl (by decide) ?_
  refine Ev.jne (tgt := 27) rfl (by decide) (fun c12 => absurd (congrArg nI hP.1) c12) (fun c12 => ?_)
  have hk3 : tK U n (Re s) = 3 := nI_injL (b := 3) (by have := tK_le (U := U) (n := n) (e := Re s); omega) (by decide) c12
  refine Ev.aload_n rfl rfl ?_
  refine Ev.getf rfl rfl m0 rfl ?_
  rw [hst.2.2.2.1.2.2.2.2 hk3]
  refine Ev.iload_n rfl rfl ?_
  refine Ev.iload_n rfl rfl ?_
  refine Ev.cS3 rfl rfl rfl (by decide) ⟨(Nat.le_refl _), (Nat.le_refl _)⟩ (m_in_y (K_in_nn hP.2.1 hP.2.2 (by omega))) ?_
  refine Ev.zne (tgt := 33) rfl (by decide) (fun c24 => ?_) (fun c24 => absurd c24 (by decide))
  refine Ev.aload_n rfl rfl ?_
  refine Ev.getf rfl rfl m0 rfl ?_
  rw [hst.2.2.2.1.2.2.2.2 hk3]
  refine Ev.istore_n rfl rfl rfl ?_
  refine Ev.aload_n rfl rfl ?_
  refine Ev.iconst (v := 1) rfl (by decide) ?_
  refine Ev.putE rfl rfl m0 rfl rfl rfl (Nat.le_of_ble_eq_true rfl) (fun τ740 f1 q1 => ?_)
  have m0 : τ740.2 y = some (.inr (.inr (10, mo y (upd g 9 1)))) := q1
  have m_all := frm.cell f1 m_all (by omega)
  have fr := fr.step f1 (by omega) (by omega)
  have hst := MSt_ab (ab1 := true) hst (show (1 : Int32) = _ from rfl)
  refine Ev.aload_n rfl rfl ?_
  have hM : isM _ y (upd g 9 1) A := ⟨m0, m_all⟩
  refine Ev.xV0u rfl rfl m0 rfl rfl (by decide) ⟨(Nat.le_refl _), (Nat.le_refl _)⟩ (m_adv_ok hM ht hst.2.2.2.2.1 (fun p hp => (hst.1 (10 + p) (by omega) (by omega)).trans (hA0 p hp)) (tE_le ht hok.1).2 hst.2.2.2.1.1) (fun τ88 f9 q9 => ?_)
  obtain ⟨g88, m0, hcr, hkk⟩ := q9
  have m_all := frm.cell f9 m_all (by omega)
  have hst := MSt_adv hst hw hcr hkk
  have fr := fr.step f9 (by omega) (by omega)
  refine Ev.iload_n rfl rfl ?_
  refine Ev.iret (ty := .int) rfl rfl rfl (Nat.le_refl _) (Nat.le_refl _) ?_
  rw [← hQ]
  exact ⟨rfl, fr, _, _, m0, m_all, hst⟩
theorem m_takes_n (m0 : σ.2 y = some (.inr (.inr (10, mo y g)))) (m_all : σ.2 (y + 1) = some (.inl (0, 4500, A))) (ht : txt U n) (hA0 : ∀ p, p < n → A0 (10 + p) = nI (U p)) (hst : MSt U n A0 A g s ab) (hok : Rok U n s) (hw : Rw s = false) {fi la : Nat} (hfl : fi ≤ 20 ∧ la ≤ 20) (hP : ¬ (tK U n (Re s) = 3 ∧ fi ≤ tW U n (Re s) ∧ tW U n (Re s) ≤ la)) : RetX Γ m_M_takes [.ref y, .int (nI fi), .int (nI la)] σ y (y + 2) (some (.int 0)) (fun τ => ∃ g1 A1 : Nat → Int32, τ.2 y = some (.inr (.inr (10, mo y g1))) ∧ τ.2 (y + 1) = some (.inl (0, 4500, A1)) ∧ MSt U n A0 A1 g1 (true, Re s, Rf s, Rp s) ab) := by
  have hn6 := ht.1
  have hW : tW U n (Re s) ≤ 99 := by
    unfold tW
    split
    · rcases wdc_cases (wvl U (tS0 U n (Re s)) (tL U n (Re s) - tS0 U n (Re s))) with q | q <;> omega
    · omega
  unfold RetX
  generalize hQ : ((fun (r0 : Option Value) (τ : ex_S) => r0 = some (.int 0) ∧ frm σ τ y (y + 2) ∧ (fun τ : ex_S => ∃ g1 A1 : Nat → Int32, τ.2 y = some (.inr (.inr (10, mo y g1))) ∧ τ.2 (y + 1) = some (.inl (0, 4500, A1)) ∧ MSt U n A0 A1 g1 (true, Re s, Rf s, Rp s) ab) τ)) = Q
  refine Ret.start pm_175 rfl ?_
  have fr : frm σ σ y (y + 2) := frm.rf
  refine Ev.aload_n rfl rfl ?_
  refine Ev.getf rfl rfl m0 rfl ?_
  rw [hst.2.2.2.2.2.1]
  refine Ev.zne (tgt := 27) rfl (by decide) (fun c4 => absurd c4 (by rw [hw]; decide)) (fun c4 => ?_)
  refine Ev.aload_n rfl rfl ?_
  refine Ev.getf rfl rfl m0 rfl ?_
  rw [hst.2.2.2.1.2.2.1]
  refine Ev.iconst (v := 3) rfl (by decide) ?_
  refine Ev.jne (tgt := 27) rfl (by decide) (fun c12 => ?_) (fun c12 => ?_)
  · skip
    refine Ev.aload_n rfl rfl ?_
    refine Ev.xV0u rfl rfl m0 rfl rfl (by decide) ⟨(Nat.le_refl _), (Nat.le_refl _)⟩ (m_ends_ok m0 m_all hst) (fun τ901 f9 q9 => ?_)
    obtain ⟨g901, A901, m0, m_all, hst⟩ := q9
    have fr := fr.step f9 (by omega) (by omega)
    refine Ev.iconst (v := 0) rfl (by decide) ?_
    refine Ev.iret (ty := .int) rfl rfl rfl (Nat.le_refl _) (Nat.le_refl _) ?_
    rw [← hQ]
    exact ⟨rfl, fr, _, _, m0, m_all, hst⟩
  · skip
    have hk3 : tK U n (Re s) = 3 := nI_injL (b := 3) (by have := tK_le (U := U) (n := n) (e := Re s); omega) (by decide) c12
    refine Ev.aload_n rfl rfl ?_
    refine Ev.getf rfl rfl m0 rfl ?_
    rw [hst.2.2.2.1.2.2.2.2 hk3]
    refine Ev.iload_n rfl rfl ?_
    refine Ev.iload_n rfl rfl ?_
    refine Ev.cS3 rfl rfl rfl (by decide) ⟨(Nat.le_refl _), (Nat.le_refl _)⟩ (m_in_n (K_in_nx (fun h => hP ⟨hk3, h⟩) (by omega) (by omega) (by omega))) ?_
    refine Ev.zne (tgt := 33) rfl (by decide) (fun c24 => absurd (by decide) c24) (fun c24 => ?_)
    refine Ev.aload_n rfl rfl ?_
    refine Ev.xV0u rfl rfl m0 rfl rfl (by decide) ⟨(Nat.le_refl _), (Nat.le_refl _)⟩ (m_ends_ok m0 m_all hst) (fun τ902 f9 q9 => ?_)
    obtain ⟨g902, A902, m0, m_all, hst⟩ := q9
    have fr := fr.step f9 (by omega) (by omega)
    refine Ev.iconst (v := 0) rfl (by decide) ?_
    refine Ev.iret (ty := .int) rfl rfl rfl (Nat.le_refl _) (Nat.le_refl _) ?_
    rw [← hQ]
    exact ⟨rfl, fr, _, _, m0, m_all, hst⟩
theorem m_endsL_ok (m0 : σ.2 y = some (.inr (.inr (10, mo y g)))) (m_all : σ.2 (y + 1) = some (.inl (0, 4500, A))) (ht : txt U n) (hA0 : ∀ p, p < n → A0 (10 + p) = nI (U p)) (hst : MSt U n A0 A g s ab) (hok : Rok U n s) : RetX Γ m_M_endsLine [.ref y] σ y (y + 2) none (fun τ => ∃ g1 A1 : Nat → Int32, τ.2 y = some (.inr (.inr (10, mo y g1))) ∧ τ.2 (y + 1) = some (.inl (0, 4500, A1)) ∧ MSt U n A0 A1 g1 (rel U n s) ab) := by
  have hn6 := ht.1
  unfold RetX
  generalize hQ : ((fun (r0 : Option Value) (τ : ex_S) => r0 = none ∧ frm σ τ y (y + 2) ∧ (fun τ : ex_S => ∃ g1 A1 : Nat → Int32, τ.2 y = some (.inr (.inr (10, mo y g1))) ∧ τ.2 (y + 1) = some (.inl (0, 4500, A1)) ∧ MSt U n A0 A1 g1 (rel U n s) ab) τ)) = Q
  refine Ret.start pm_176 rfl ?_
  have fr : frm σ σ y (y + 2) := frm.rf
  refine Ev.aload_n rfl rfl ?_
  refine Ev.getf rfl rfl m0 rfl ?_
  rw [hst.2.2.2.2.2.1]
  refine Ev.zne (tgt := 22) rfl (by decide) (fun c4 => ?_) (fun c4 => ?_)
  · skip
    refine Ev.aload_n rfl rfl ?_
    refine Ev.xV0u rfl rfl m0 rfl rfl (by decide) ⟨(Nat.le_refl _), (Nat.le_refl _)⟩ (m_ends_ok m0 m_all hst) (fun τ901 f9 q9 => ?_)
    obtain ⟨g901, A901, m0, m_all, hst⟩ := q9
    have fr := fr.step f9 (by omega) (by omega)
    refine Ev.ret rfl rfl (Nat.le_refl _) (Nat.le_refl _) ?_
    rw [show rel U n s = _ from if_neg (fun h => by first | (exact absurd (b01 c4) (by rw [h.1]; decide)) | exact c12 (congrArg nI h.2))] at hQ
    rw [← hQ]
    exact ⟨rfl, fr, _, _, m0, m_all, hst⟩
  · skip
    refine Ev.aload_n rfl rfl ?_
    refine Ev.getf rfl rfl m0 rfl ?_
    rw [hst.2.2.2.1.2.2.1]
    refine Ev.iconst (v := 2) rfl (by decide) ?_
    refine Ev.jne (tgt := 22) rfl (by decide) (fun c12 => ?_) (fun c12 => ?_)
    · skip
      refine Ev.aload_n rfl rfl ?_
      refine Ev.xV0u rfl rfl m0 rfl rfl (by decide) ⟨(Nat.le_refl _), (Nat.le_refl _)⟩ (m_ends_ok m0 m_all hst) (fun τ902 f9 q9 => ?_)
      obtain ⟨g902, A902, m0, m_all, hst⟩ := q9
      have fr := fr.step f9 (by omega) (by omega)
      refine Ev.ret rfl rfl (Nat.le_refl _) (Nat.le_refl _) ?_
      rw [show rel U n s = _ from if_neg (fun h => by first | (exact absurd (b01 c4) (by rw [h.1]; decide)) | exact c12 (congrArg nI h.2))] at hQ
      rw [← hQ]
      exact ⟨rfl, fr, _, _, m0, m_all, hst⟩
    · skip
      have hk2 : tK U n (Re s) = 2 := nI_injL (b := 2) (by have := tK_le (U := U) (n := n) (e := Re s); omega) (by decide) c12
      refine Ev.aload_n rfl rfl ?_
      have hM : isM _ y g A := ⟨m0, m_all⟩
      refine Ev.xV0u rfl rfl m0 rfl rfl (by decide) ⟨(Nat.le_refl _), (Nat.le_refl _)⟩ (m_adv_ok hM ht hst.2.2.2.2.1 (fun p hp => (hst.1 (10 + p) (by omega) (by omega)).trans (hA0 p hp)) (tE_le ht hok.1).2 hst.2.2.2.1.1) (fun τ88 f9 q9 => ?_)
      obtain ⟨g88, m0, hcr, hkk⟩ := q9
      have m_all := frm.cell f9 m_all (by omega)
      have hst := MSt_adv hst (b00 c4) hcr hkk
      have fr := fr.step f9 (by omega) (by omega)
      refine Ev.goto (tgt := 26) rfl (by decide) ?_
      refine Ev.ret rfl rfl (Nat.le_refl _) (Nat.le_refl _) ?_
      rw [show rel U n s = _ from if_pos ⟨b00 c4, hk2⟩] at hQ
      rw [← hQ]
      exact ⟨rfl, fr, _, _, m0, m_all, hst⟩
end
end
