/-! Texts (class): what a line of a school tells. -/
noncomputable section
section
variable {Γ : ex_G} {σ : ex_S} {x q a p y : Nat} {S : Sch} {T : Tol} {P : Pln} {g A : Nat → Int32}
variable {n r b : Nat}
theorem addL_ok (hS : isS σ a S) (h16 : S.1 < 16) (u v w : Nat) : RetX Γ m_School_addLearner [.ref a, .int (nI u), .int (nI v), .int (nI w)] σ a (a + 11) none (fun τ => isS τ a (Ln0 u v w S)) := by
  obtain ⟨h0, h1, h2, h3, h4, h5, h6, h7, h8, h9, h10⟩ := id hS
  unfold RetX
  generalize hQ : ((fun (r0 : Option Value) (τ : ex_S) => r0 = none ∧ frm σ τ a (a + 11) ∧ (fun τ : ex_S => isS τ a (Ln0 u v w S)) τ)) = Q
  refine Ret.start pm_73 rfl ?_
  have fr : frm σ σ a (a + 11) := frm.rf
  refine Ev.aload_n rfl rfl ?_
  refine Ev.getf rfl rfl h0 rfl ?_
  refine Ev.bipush (v := 16) rfl (by decide) ?_
  refine Ev.jge (tgt := 69) rfl (by decide) (fun c6 => absurd (nI_lt (b := 16) h16 (by decide)) c6) (fun c6 => ?_)
  refine Ev.aload_n rfl rfl ?_
  refine Ev.getf rfl rfl h0 rfl ?_
  refine Ev.aload_n rfl rfl ?_
  refine Ev.getf rfl rfl h0 rfl ?_
  refine Ev.iload_n rfl rfl ?_
  refine Ev.iastE (k := S.1) rfl h1 rfl ⟨(by omega), by decide⟩ (fun τ1 f1 h1 => ?_)
  have h0 := frm.cell f1 h0 (by omega)
  have h2 := frm.cell f1 h2 (by omega)
  have h3 := frm.cell f1 h3 (by omega)
  have h4 := frm.cell f1 h4 (by omega)
  have h5 := frm.cell f1 h5 (by omega)
  have h6 := frm.cell f1 h6 (by omega)
  have h7 := frm.cell f1 h7 (by omega)
  have h8 := frm.cell f1 h8 (by omega)
  have h9 := frm.cell f1 h9 (by omega)
  have h10 := frm.cell f1 h10 (by omega)
  have fr := fr.step f1 (by omega) (by omega)
  refine Ev.aload_n rfl rfl ?_
  refine Ev.getf rfl rfl h0 rfl ?_
  refine Ev.aload_n rfl rfl ?_
  refine Ev.getf rfl rfl h0 rfl ?_
  refine Ev.iload_n rfl rfl ?_
  refine Ev.iastE (k := S.1) rfl h2 rfl ⟨(by omega), by decide⟩ (fun τ2 f1 h2 => ?_)
  have h0 := frm.cell f1 h0 (by omega)
  have h1 := frm.cell f1 h1 (by omega)
  have h3 := frm.cell f1 h3 (by omega)
  have h4 := frm.cell f1 h4 (by omega)
  have h5 := frm.cell f1 h5 (by omega)
  have h6 := frm.cell f1 h6 (by omega)
  have h7 := frm.cell f1 h7 (by omega)
  have h8 := frm.cell f1 h8 (by omega)
  have h9 := frm.cell f1 h9 (by omega)
  have h10 := frm.cell f1 h10 (by omega)
  have fr := fr.step f1 (by omega) (by omega)
  refine Ev.aload_n rfl rfl ?_
  refine Ev.getf rfl rfl h0 rfl ?_
  refine Ev.aload_n rfl rfl ?_
  refine Ev.getf rfl rfl h0 rfl ?_
  refine Ev.iload_n rfl rfl ?_
  refine Ev.iastE (k := S.1) rfl h3 rfl ⟨(by omega), by decide⟩ (fun τ3 f1 h3 => ?_)
  have h0 := frm.cell f1 h0 (by omega)
  have h1 := frm.cell f1 h1 (by omega)
  have h2 := frm.cell f1 h2 (by omega)
  have h4 := frm.cell f1 h4 (by omega)
  have h5 := frm.cell f1 h5 (by omega)
  have h6 := frm.cell f1 h6 (by omega)
  have h7 := frm.cell f1 h7 (by omega)
  have h8 := frm.cell f1 h8 (by omega)
  have h9 := frm.cell f1 h9 (by omega)
  have h10 := frm.cell f1 h10 (by omega)
  have fr := fr.step f1 (by omega) (by omega)
  refine Ev.aload_n rfl rfl ?_
  refine Ev.getf rfl rfl h0 rfl ?_
  refine Ev.aload_n rfl rfl ?_
  refine Ev.getf rfl rfl h0 rfl ?_
  refine Ev.iconst (v := (-1)) rfl (by decide) ?_
  refine Ev.iastE (k := S.1) rfl h4 rfl ⟨(by omega), by decide⟩ (fun τ4 f1 h4 => ?_)
  have h0 := frm.cell f1 h0 (by omega)
  have h1 := frm.cell f1 h1 (by omega)
  have h2 := frm.cell f1 h2 (by omega)
  have h3 := frm.cell f1 h3 (by omega)
  have h5 := frm.cell f1 h5 (by omega)
  have h6 := frm.cell f1 h6 (by omega)
  have h7 := frm.cell f1 h7 (by omega)
  have h8 := frm.cell f1 h8 (by omega)
  have h9 := frm.cell f1 h9 (by omega)
  have h10 := frm.cell f1 h10 (by omega)
  have fr := fr.step f1 (by omega) (by omega)
  refine Ev.aload_n rfl rfl ?_
  refine Ev.getf rfl rfl h0 rfl ?_
  refine Ev.aload_n rfl rfl ?_
  refine Ev.getf rfl rfl h0 rfl ?_
  refine Ev.iconst (v := 0) rfl (by decide) ?_
  refine Ev.iastE (k := S.1) rfl h5 rfl ⟨(by omega), by decide⟩ (fun τ5 f1 h5 => ?_)
  have h0 := frm.cell f1 h0 (by omega)
  have h1 := frm.cell f1 h1 (by omega)
  have h2 := frm.cell f1 h2 (by omega)
  have h3 := frm.cell f1 h3 (by omega)
  have h4 := frm.cell f1 h4 (by omega)
  have h6 := frm.cell f1 h6 (by omega)
  have h7 := frm.cell f1 h7 (by omega)
  have h8 := frm.cell f1 h8 (by omega)
  have h9 := frm.cell f1 h9 (by omega)
  have h10 := frm.cell f1 h10 (by omega)
  have fr := fr.step f1 (by omega) (by omega)
  refine Ev.aload_n rfl rfl ?_
  refine Ev.dup rfl rfl ?_
  refine Ev.getf rfl rfl h0 rfl ?_
  refine Ev.iconst (v := 1) rfl (by decide) ?_
  refine Ev.iadd rfl ?_
  rw [show (nI S.1) + (1 : Int32) = nI (S.1 + 1) from (nq_add (a := S.1) (b := 1) rfl (rfl : (1 : Int32) = nI 1))]
  refine Ev.putE rfl rfl h0 rfl rfl rfl (Nat.le_of_ble_eq_true rfl) (fun τ6 f1 h0 => ?_)
  replace h0 : τ6.2 a = some (.inr (.inr (2, [(.int (nI (S.1 + 1))), (.ref (a + 1)), (.ref (a + 2)), (.ref (a + 3)), (.ref (a + 4)), (.ref (a + 5)), (.int (nI S.2.1)), (.ref (a + 6)), (.ref (a + 7)), (.ref (a + 8)), (.ref (a + 9)), (.ref (a + 10))]))) := h0
  have h1 := frm.cell f1 h1 (by omega)
  have h2 := frm.cell f1 h2 (by omega)
  have h3 := frm.cell f1 h3 (by omega)
  have h4 := frm.cell f1 h4 (by omega)
  have h5 := frm.cell f1 h5 (by omega)
  have h6 := frm.cell f1 h6 (by omega)
  have h7 := frm.cell f1 h7 (by omega)
  have h8 := frm.cell f1 h8 (by omega)
  have h9 := frm.cell f1 h9 (by omega)
  have h10 := frm.cell f1 h10 (by omega)
  have fr := fr.step f1 (by omega) (by omega)
  refine Ev.ret rfl rfl (Nat.le_refl _) (Nat.le_refl _) ?_
  rw [← hQ]
  exact ⟨rfl, fr, ⟨h0, h1, h2, h3, h4, h5, h6, h7, h8, h9, h10⟩⟩
theorem addT_ok (hS : isS σ a S) (ht5 : S.2.1 < 5) (u v : Nat) : RetX Γ m_School_addTeacher [.ref a, .int (nI u), .int (nI v)] σ a (a + 11) none (fun τ => isS τ a (Ln3 u v S)) := by
  obtain ⟨h0, h1, h2, h3, h4, h5, h6, h7, h8, h9, h10⟩ := id hS
  unfold RetX
  generalize hQ : ((fun (r0 : Option Value) (τ : ex_S) => r0 = none ∧ frm σ τ a (a + 11) ∧ (fun τ : ex_S => isS τ a (Ln3 u v S)) τ)) = Q
  refine Ret.start pm_74 rfl ?_
  have fr : frm σ σ a (a + 11) := frm.rf
  refine Ev.aload_n rfl rfl ?_
  refine Ev.getf rfl rfl h0 rfl ?_
  refine Ev.iconst (v := 5) rfl (by decide) ?_
  refine Ev.jge (tgt := 38) rfl (by decide) (fun c5 => absurd (nI_lt (b := 5) ht5 (by decide)) c5) (fun c5 => ?_)
  refine Ev.aload_n rfl rfl ?_
  refine Ev.getf rfl rfl h0 rfl ?_
  refine Ev.aload_n rfl rfl ?_
  refine Ev.getf rfl rfl h0 rfl ?_
  refine Ev.iload_n rfl rfl ?_
  refine Ev.iastE (k := S.2.1) rfl h6 rfl ⟨(by omega), by decide⟩ (fun τ1 f1 h6 => ?_)
  have h0 := frm.cell f1 h0 (by omega)
  have h1 := frm.cell f1 h1 (by omega)
  have h2 := frm.cell f1 h2 (by omega)
  have h3 := frm.cell f1 h3 (by omega)
  have h4 := frm.cell f1 h4 (by omega)
  have h5 := frm.cell f1 h5 (by omega)
  have h7 := frm.cell f1 h7 (by omega)
  have h8 := frm.cell f1 h8 (by omega)
  have h9 := frm.cell f1 h9 (by omega)
  have h10 := frm.cell f1 h10 (by omega)
  have fr := fr.step f1 (by omega) (by omega)
  refine Ev.aload_n rfl rfl ?_
  refine Ev.getf rfl rfl h0 rfl ?_
  refine Ev.aload_n rfl rfl ?_
  refine Ev.getf rfl rfl h0 rfl ?_
  refine Ev.iload_n rfl rfl ?_
  refine Ev.iastE (k := S.2.1) rfl h7 rfl ⟨(by omega), by decide⟩ (fun τ2 f1 h7 => ?_)
  have h0 := frm.cell f1 h0 (by omega)
  have h1 := frm.cell f1 h1 (by omega)
  have h2 := frm.cell f1 h2 (by omega)
  have h3 := frm.cell f1 h3 (by omega)
  have h4 := frm.cell f1 h4 (by omega)
  have h5 := frm.cell f1 h5 (by omega)
  have h6 := frm.cell f1 h6 (by omega)
  have h8 := frm.cell f1 h8 (by omega)
  have h9 := frm.cell f1 h9 (by omega)
  have h10 := frm.cell f1 h10 (by omega)
  have fr := fr.step f1 (by omega) (by omega)
  refine Ev.aload_n rfl rfl ?_
  refine Ev.dup rfl rfl ?_
  refine Ev.getf rfl rfl h0 rfl ?_
  refine Ev.iconst (v := 1) rfl (by decide) ?_
  refine Ev.iadd rfl ?_
  rw [show (nI S.2.1) + (1 : Int32) = nI (S.2.1 + 1) from (nq_add (a := S.2.1) (b := 1) rfl (rfl : (1 : Int32) = nI 1))]
  refine Ev.putE rfl rfl h0 rfl rfl rfl (Nat.le_of_ble_eq_true rfl) (fun τ3 f1 h0 => ?_)
  replace h0 : τ3.2 a = some (.inr (.inr (2, [(.int (nI S.1)), (.ref (a + 1)), (.ref (a + 2)), (.ref (a + 3)), (.ref (a + 4)), (.ref (a + 5)), (.int (nI (S.2.1 + 1))), (.ref (a + 6)), (.ref (a + 7)), (.ref (a + 8)), (.ref (a + 9)), (.ref (a + 10))]))) := h0
  have h1 := frm.cell f1 h1 (by omega)
  have h2 := frm.cell f1 h2 (by omega)
  have h3 := frm.cell f1 h3 (by omega)
  have h4 := frm.cell f1 h4 (by omega)
  have h5 := frm.cell f1 h5 (by omega)
  have h6 := frm.cell f1 h6 (by omega)
  have h7 := frm.cell f1 h7 (by omega)
  have h8 := frm.cell f1 h8 (by omega)
  have h9 := frm.cell f1 h9 (by omega)
  have h10 := frm.cell f1 h10 (by omega)
  have fr := fr.step f1 (by omega) (by omega)
  refine Ev.ret rfl rfl (Nat.le_refl _) (Nat.le_refl _) ?_
  rw [← hQ]
  exact ⟨rfl, fr, ⟨h0, h1, h2, h3, h4, h5, h6, h7, h8, h9, h10⟩⟩
theorem leave_ok (hS : isS σ a S) (hn16 : S.1 ≤ 16) (p : Int32) : RetX Γ m_School_leave [.ref a, .int p] σ a (a + 11) none (fun τ => isS τ a (S_ar S 3 (lvF S.1 (S.2.2 3) p))) := by
  obtain ⟨h0, h1, h2, h3, h4, h5, h6, h7, h8, h9, h10⟩ := id hS
  unfold RetX
  generalize hQ : ((fun (r0 : Option Value) (τ : ex_S) => r0 = none ∧ frm σ τ a (a + 11) ∧ (fun τ : ex_S => isS τ a (S_ar S 3 (lvF S.1 (S.2.2 3) p))) τ)) = Q
  refine Ret.start pm_76 rfl ?_
  have fr : frm σ σ a (a + 11) := frm.rf
  rcases ix_cases p (n := S.1) (by omega) with hu | hu | ⟨q, hq, rfl⟩
  · skip
    refine Ev.aload_n rfl rfl ?_
    refine Ev.iload_n rfl rfl ?_
    refine Ev.cV1 rfl rfl h0 rfl rfl (by decide) ⟨(Nat.le_refl _), (Nat.le_refl _)⟩ (has_ok hS p) ?_
    rw [has_no (Or.inl hu)]
    refine Ev.zeq (tgt := 15) rfl (by decide) (fun c5 => ?_) (fun c5 => absurd (by decide) c5)
    refine Ev.ret rfl rfl (Nat.le_refl _) (Nat.le_refl _) ?_
    rw [← hQ, show lvF S.1 (S.2.2 3) p = S.2.2 3 from if_pos hu]
    exact ⟨rfl, fr, ⟨h0, h1, h2, h3, h4, h5, h6, h7, h8, h9, h10⟩⟩
  · skip
    refine Ev.aload_n rfl rfl ?_
    refine Ev.iload_n rfl rfl ?_
    refine Ev.cV1 rfl rfl h0 rfl rfl (by decide) ⟨(Nat.le_refl _), (Nat.le_refl _)⟩ (has_ok hS p) ?_
    rw [has_no (Or.inr hu)]
    refine Ev.zeq (tgt := 15) rfl (by decide) (fun c5 => ?_) (fun c5 => absurd (by decide) c5)
    refine Ev.ret rfl rfl (Nat.le_refl _) (Nat.le_refl _) ?_
    rw [← hQ, show lvF S.1 (S.2.2 3) p = S.2.2 3 from by
      unfold lvF
      rw [if_pos hu]
      exact ite_self _]
    exact ⟨rfl, fr, ⟨h0, h1, h2, h3, h4, h5, h6, h7, h8, h9, h10⟩⟩
  · skip
    refine Ev.aload_n rfl rfl ?_
    refine Ev.iload_n rfl rfl ?_
    refine Ev.cV1 rfl rfl h0 rfl rfl (by decide) ⟨(Nat.le_refl _), (Nat.le_refl _)⟩ (has_ok hS (nI q)) ?_
    rw [has_yes hq hn16]
    refine Ev.zeq (tgt := 15) rfl (by decide) (fun c5 => absurd c5 (by decide)) (fun c5 => ?_)
    refine Ev.aload_n rfl rfl ?_
    refine Ev.getf rfl rfl h0 rfl ?_
    refine Ev.iload_n rfl rfl ?_
    refine Ev.iconst (v := (-1)) rfl (by decide) ?_
    refine Ev.iastE (k := q) rfl h4 rfl ⟨(by omega), by decide⟩ (fun τ1 f1 h4 => ?_)
    have h0 := frm.cell f1 h0 (by omega)
    have h1 := frm.cell f1 h1 (by omega)
    have h2 := frm.cell f1 h2 (by omega)
    have h3 := frm.cell f1 h3 (by omega)
    have h5 := frm.cell f1 h5 (by omega)
    have h6 := frm.cell f1 h6 (by omega)
    have h7 := frm.cell f1 h7 (by omega)
    have h8 := frm.cell f1 h8 (by omega)
    have h9 := frm.cell f1 h9 (by omega)
    have h10 := frm.cell f1 h10 (by omega)
    have fr := fr.step f1 (by omega) (by omega)
    refine Ev.ret rfl rfl (Nat.le_refl _) (Nat.le_refl _) ?_
    rw [← hQ, lvF_n (f := S.2.2 3) hq (by omega)]
    exact ⟨rfl, fr, ⟨h0, h1, h2, h3, h4, h5, h6, h7, h8, h9, h10⟩⟩
theorem couple_ok (hS : isS σ a S) (hn16 : S.1 ≤ 16) {u v : Nat} (hu : u < S.1) (hv : v < S.1) : RetX Γ m_School_couple [.ref a, .int (nI u), .int (nI v)] σ a (a + 11) none (fun τ => isS τ a (S_ar S 3 (cplF S.1 (S.2.2 3) u v))) := by
  obtain ⟨h0, h1, h2, h3, h4, h5, h6, h7, h8, h9, h10⟩ := id hS
  unfold RetX
  generalize hQ : ((fun (r0 : Option Value) (τ : ex_S) => r0 = none ∧ frm σ τ a (a + 11) ∧ (fun τ : ex_S => isS τ a (S_ar S 3 (cplF S.1 (S.2.2 3) u v))) τ)) = Q
  refine Ret.start pm_75 rfl ?_
  have fr : frm σ σ a (a + 11) := frm.rf
  refine Ev.aload_n rfl rfl ?_
  refine Ev.iload_n rfl rfl ?_
  refine Ev.cV1 rfl rfl h0 rfl rfl (by decide) ⟨(Nat.le_refl _), (Nat.le_refl _)⟩ (has_ok hS (nI u)) ?_
  rw [has_yes hu hn16]
  refine Ev.zeq (tgt := 50) rfl (by decide) (fun c5 => absurd c5 (by decide)) (fun c5 => ?_)
  refine Ev.aload_n rfl rfl ?_
  refine Ev.iload_n rfl rfl ?_
  refine Ev.cV1 rfl rfl h0 rfl rfl (by decide) ⟨(Nat.le_refl _), (Nat.le_refl _)⟩ (has_ok hS (nI v)) ?_
  rw [has_yes hv hn16]
  refine Ev.zeq (tgt := 50) rfl (by decide) (fun c13 => absurd c13 (by decide)) (fun c13 => ?_)
  refine Ev.aload_n rfl rfl ?_
  refine Ev.aload_n rfl rfl ?_
  refine Ev.getf rfl rfl h0 rfl ?_
  refine Ev.iload_n rfl rfl ?_
  refine Ev.ialdN (k := u) rfl h4 rfl ⟨(by omega), by decide⟩ ?_
  refine Ev.xV1u rfl rfl h0 rfl rfl (by decide) ⟨(Nat.le_refl _), (Nat.le_refl _)⟩ (leave_ok hS hn16 _) (fun τ601 f9 q9 => ?_)
  have hS1 : isS τ601 a (S_ar S 3 (lvF S.1 (S.2.2 3) (S.2.2 3 u))) := q9
  obtain ⟨k0, k1, k2, k3, k4, k5, k6, k7, k8, k9, k10⟩ := id q9
  have h0 : τ601.2 a = some (.inr (.inr (2, [(.int (nI S.1)), (.ref (a + 1)), (.ref (a + 2)), (.ref (a + 3)), (.ref (a + 4)), (.ref (a + 5)), (.int (nI S.2.1)), (.ref (a + 6)), (.ref (a + 7)), (.ref (a + 8)), (.ref (a + 9)), (.ref (a + 10))]))) := k0
  have h1 : τ601.2 (a + 1) = some (.inl (0, 17, S.2.2 0)) := k1
  have h2 : τ601.2 (a + 2) = some (.inl (0, 16, S.2.2 1)) := k2
  have h3 : τ601.2 (a + 3) = some (.inl (0, 16, S.2.2 2)) := k3
  have h4 : τ601.2 (a + 4) = some (.inl (0, 16, (lvF S.1 (S.2.2 3) (S.2.2 3 u)))) := k4
  have h5 : τ601.2 (a + 5) = some (.inl (0, 16, S.2.2 4)) := k5
  have h6 : τ601.2 (a + 6) = some (.inl (0, 5, S.2.2 5)) := k6
  have h7 : τ601.2 (a + 7) = some (.inl (0, 5, S.2.2 6)) := k7
  have h8 : τ601.2 (a + 8) = some (.inl (0, 7, S.2.2 7)) := k8
  have h9 : τ601.2 (a + 9) = some (.inl (0, 7, S.2.2 8)) := k9
  have h10 : τ601.2 (a + 10) = some (.inl (0, 11, S.2.2 9)) := k10
  have fr := fr.step f9 (by omega) (by omega)
  refine Ev.aload_n rfl rfl ?_
  refine Ev.aload_n rfl rfl ?_
  refine Ev.getf rfl rfl h0 rfl ?_
  refine Ev.iload_n rfl rfl ?_
  refine Ev.ialdN (k := v) rfl h4 rfl ⟨(by omega), by decide⟩ ?_
  refine Ev.xV1u rfl rfl h0 rfl rfl (by decide) ⟨(Nat.le_refl _), (Nat.le_refl _)⟩ (leave_ok hS1 hn16 _) (fun τ602 f9 q9 => ?_)
  have q9 : isS τ602 a (S_ar (S_ar S 3 (lvF S.1 (S.2.2 3) (S.2.2 3 u))) 3 (lvF S.1 (lvF S.1 (S.2.2 3) (S.2.2 3 u)) ((lvF S.1 (S.2.2 3) (S.2.2 3 u)) v))) := q9
  rw [S_ar_2] at q9
  obtain ⟨k0, k1, k2, k3, k4, k5, k6, k7, k8, k9, k10⟩ := id q9
  have h0 : τ602.2 a = some (.inr (.inr (2, [(.int (nI S.1)), (.ref (a + 1)), (.ref (a + 2)), (.ref (a + 3)), (.ref (a + 4)), (.ref (a + 5)), (.int (nI S.2.1)), (.ref (a + 6)), (.ref (a + 7)), (.ref (a + 8)), (.ref (a + 9)), (.ref (a + 10))]))) := k0
  have h1 : τ602.2 (a + 1) = some (.inl (0, 17, S.2.2 0)) := k1
  have h2 : τ602.2 (a + 2) = some (.inl (0, 16, S.2.2 1)) := k2
  have h3 : τ602.2 (a + 3) = some (.inl (0, 16, S.2.2 2)) := k3
  have h4 : τ602.2 (a + 4) = some (.inl (0, 16, (lvF S.1 (lvF S.1 (S.2.2 3) (S.2.2 3 u)) ((lvF S.1 (S.2.2 3) (S.2.2 3 u)) v)))) := k4
  have h5 : τ602.2 (a + 5) = some (.inl (0, 16, S.2.2 4)) := k5
  have h6 : τ602.2 (a + 6) = some (.inl (0, 5, S.2.2 5)) := k6
  have h7 : τ602.2 (a + 7) = some (.inl (0, 5, S.2.2 6)) := k7
  have h8 : τ602.2 (a + 8) = some (.inl (0, 7, S.2.2 7)) := k8
  have h9 : τ602.2 (a + 9) = some (.inl (0, 7, S.2.2 8)) := k9
  have h10 : τ602.2 (a + 10) = some (.inl (0, 11, S.2.2 9)) := k10
  have fr := fr.step f9 (by omega) (by omega)
  refine Ev.aload_n rfl rfl ?_
  refine Ev.getf rfl rfl h0 rfl ?_
  refine Ev.iload_n rfl rfl ?_
  refine Ev.iload_n rfl rfl ?_
  refine Ev.iastE (k := u) rfl h4 rfl ⟨(by omega), by decide⟩ (fun τ1 f1 h4 => ?_)
  have h0 := frm.cell f1 h0 (by omega)
  have h1 := frm.cell f1 h1 (by omega)
  have h2 := frm.cell f1 h2 (by omega)
  have h3 := frm.cell f1 h3 (by omega)
  have h5 := frm.cell f1 h5 (by omega)
  have h6 := frm.cell f1 h6 (by omega)
  have h7 := frm.cell f1 h7 (by omega)
  have h8 := frm.cell f1 h8 (by omega)
  have h9 := frm.cell f1 h9 (by omega)
  have h10 := frm.cell f1 h10 (by omega)
  have fr := fr.step f1 (by omega) (by omega)
  refine Ev.aload_n rfl rfl ?_
  refine Ev.getf rfl rfl h0 rfl ?_
  refine Ev.iload_n rfl rfl ?_
  refine Ev.iload_n rfl rfl ?_
  refine Ev.iastE (k := v) rfl h4 rfl ⟨(by omega), by decide⟩ (fun τ2 f1 h4 => ?_)
  have h0 := frm.cell f1 h0 (by omega)
  have h1 := frm.cell f1 h1 (by omega)
  have h2 := frm.cell f1 h2 (by omega)
  have h3 := frm.cell f1 h3 (by omega)
  have h5 := frm.cell f1 h5 (by omega)
  have h6 := frm.cell f1 h6 (by omega)
  have h7 := frm.cell f1 h7 (by omega)
  have h8 := frm.cell f1 h8 (by omega)
  have h9 := frm.cell f1 h9 (by omega)
  have h10 := frm.cell f1 h10 (by omega)
  have fr := fr.step f1 (by omega) (by omega)
  refine Ev.ret rfl rfl (Nat.le_refl _) (Nat.le_refl _) ?_
  rw [← hQ]
  exact ⟨rfl, fr, ⟨h0, h1, h2, h3, h4, h5, h6, h7, h8, h9, h10⟩⟩
theorem tell_0 {fa pl tk0 st0 en0 va0 si : Int32} (h_rd : σ.2 r = some (.inr (.inr (5, [.ref (r + 1), .ref (r + 12), .int fa, .int pl, .ref b, .int (nI n), .int tk0, .int st0, .int en0, .int va0, .ref (r + 20), .int si])))) {nu : Nat → Int32} (h_nu : σ.2 (r + 20) = some (.inl (0, 4, nu))) (hS : isS σ (r + 1) S) (hn16 : S.1 ≤ 16) {nn : Nat → Nat} (hnu : ∀ i, i < 3 → nu i = nI (nn i)) (h16 : S.1 < 16) : RetX Γ m_Reader_tell [.ref r, .int 0] σ (r + 1) (r + 12) none (fun τ => isS τ (r + 1) (LnF 0 nn S)) := by
  obtain ⟨h0, h1, h2, h3, h4, h5, h6, h7, h8, h9, h10⟩ := id hS
  unfold RetX
  generalize hQ : ((fun (r0 : Option Value) (τ : ex_S) => r0 = none ∧ frm σ τ (r + 1) (r + 12) ∧ (fun τ : ex_S => isS τ (r + 1) (LnF 0 nn S)) τ)) = Q
  refine Ret.start pm_122 rfl ?_
  have fr : frm σ σ (r + 1) (r + 1 + 11) := frm.rf
  refine Ev.aload_n rfl rfl ?_
  refine Ev.getf rfl rfl h_rd rfl ?_
  refine Ev.iconst (v := 0) rfl (by decide) ?_
  refine Ev.ialdN (k := 0) rfl h_nu (rfl : (0 : Int32) = nI 0) ⟨(by omega), by decide⟩ ?_
  rw [show nu 0 = nI (nn 0) from hnu 0 (by decide)]
  refine Ev.istore_n rfl rfl rfl ?_
  refine Ev.aload_n rfl rfl ?_
  refine Ev.getf rfl rfl h_rd rfl ?_
  refine Ev.iconst (v := 1) rfl (by decide) ?_
  refine Ev.ialdN (k := 1) rfl h_nu (rfl : (1 : Int32) = nI 1) ⟨(by omega), by decide⟩ ?_
  rw [show nu 1 = nI (nn 1) from hnu 1 (by decide)]
  refine Ev.istore_n rfl rfl rfl ?_
  refine Ev.aload_n rfl rfl ?_
  refine Ev.getf rfl rfl h_rd rfl ?_
  refine Ev.iconst (v := 2) rfl (by decide) ?_
  refine Ev.ialdN (k := 2) rfl h_nu (rfl : (2 : Int32) = nI 2) ⟨(by omega), by decide⟩ ?_
  rw [show nu 2 = nI (nn 2) from hnu 2 (by decide)]
  refine Ev.istore rfl rfl rfl ?_
  refine Ev.iload_n rfl rfl ?_
  refine Ev.zne (tgt := 40) rfl (by decide) (fun c23 => absurd (by decide) c23) (fun c23 => ?_)
  refine Ev.aload_n rfl rfl ?_
  refine Ev.getf rfl rfl h_rd rfl ?_
  refine Ev.iload_n rfl rfl ?_
  refine Ev.iload_n rfl rfl ?_
  refine Ev.iload rfl rfl ?_
  refine Ev.xV3u rfl rfl h0 rfl rfl (by decide) ⟨(Nat.le_refl _), (Nat.le_refl _)⟩ (addL_ok hS h16 _ _ _) (fun τ700 f9 q9 => ?_)
  have fr := fr.step f9 (by omega) (by omega)
  refine Ev.goto (tgt := 328) rfl (by decide) ?_
  refine Ev.ret rfl rfl (Nat.le_refl _) (Nat.le_refl _) ?_
  rw [← hQ]
  exact ⟨rfl, fr, q9⟩
theorem tell_1 {fa pl tk0 st0 en0 va0 si : Int32} (h_rd : σ.2 r = some (.inr (.inr (5, [.ref (r + 1), .ref (r + 12), .int fa, .int pl, .ref b, .int (nI n), .int tk0, .int st0, .int en0, .int va0, .ref (r + 20), .int si])))) {nu : Nat → Int32} (h_nu : σ.2 (r + 20) = some (.inl (0, 4, nu))) (hS : isS σ (r + 1) S) (hn16 : S.1 ≤ 16) {nn : Nat → Nat} (hnu : ∀ i, i < 2 → nu i = nI (nn i)) (hu : nn 0 < S.1) (hv : nn 1 < S.1) : RetX Γ m_Reader_tell [.ref r, .int 1] σ (r + 1) (r + 12) none (fun τ => isS τ (r + 1) (LnF 1 nn S)) := by
  obtain ⟨h0, h1, h2, h3, h4, h5, h6, h7, h8, h9, h10⟩ := id hS
  unfold RetX
  generalize hQ : ((fun (r0 : Option Value) (τ : ex_S) => r0 = none ∧ frm σ τ (r + 1) (r + 12) ∧ (fun τ : ex_S => isS τ (r + 1) (LnF 1 nn S)) τ)) = Q
  refine Ret.start pm_122 rfl ?_
  have fr : frm σ σ (r + 1) (r + 1 + 11) := frm.rf
  refine Ev.aload_n rfl rfl ?_
  refine Ev.getf rfl rfl h_rd rfl ?_
  refine Ev.iconst (v := 0) rfl (by decide) ?_
  refine Ev.ialdN (k := 0) rfl h_nu (rfl : (0 : Int32) = nI 0) ⟨(by omega), by decide⟩ ?_
  rw [show nu 0 = nI (nn 0) from hnu 0 (by decide)]
  refine Ev.istore_n rfl rfl rfl ?_
  refine Ev.aload_n rfl rfl ?_
  refine Ev.getf rfl rfl h_rd rfl ?_
  refine Ev.iconst (v := 1) rfl (by decide) ?_
  refine Ev.ialdN (k := 1) rfl h_nu (rfl : (1 : Int32) = nI 1) ⟨(by omega), by decide⟩ ?_
  rw [show nu 1 = nI (nn 1) from hnu 1 (by decide)]
  refine Ev.istore_n rfl rfl rfl ?_
  refine Ev.aload_n rfl rfl ?_
  refine Ev.getf rfl rfl h_rd rfl ?_
  refine Ev.iconst (v := 2) rfl (by decide) ?_
  refine Ev.ialdN (k := 2) rfl h_nu (rfl : (2 : Int32) = nI 2) ⟨(by omega), by decide⟩ ?_
  refine Ev.istore rfl rfl rfl ?_
  refine Ev.iload_n rfl rfl ?_
  refine Ev.zne (tgt := 40) rfl (by decide) (fun c23 => ?_) (fun c23 => absurd c23 (by decide))
  refine Ev.iload_n rfl rfl ?_
  refine Ev.iconst (v := 1) rfl (by decide) ?_
  refine Ev.jne (tgt := 57) rfl (by decide) (fun c42 => absurd (by decide) c42) (fun c42 => ?_)
  refine Ev.aload_n rfl rfl ?_
  refine Ev.getf rfl rfl h_rd rfl ?_
  refine Ev.iload_n rfl rfl ?_
  refine Ev.iload_n rfl rfl ?_
  refine Ev.xV2u rfl rfl h0 rfl rfl (by decide) ⟨(Nat.le_refl _), (Nat.le_refl _)⟩ (couple_ok hS hn16 hu hv) (fun τ700 f9 q9 => ?_)
  have fr := fr.step f9 (by omega) (by omega)
  refine Ev.goto (tgt := 328) rfl (by decide) ?_
  refine Ev.ret rfl rfl (Nat.le_refl _) (Nat.le_refl _) ?_
  rw [← hQ]
  exact ⟨rfl, fr, q9⟩
theorem tell_2 {fa pl tk0 st0 en0 va0 si : Int32} (h_rd : σ.2 r = some (.inr (.inr (5, [.ref (r + 1), .ref (r + 12), .int fa, .int pl, .ref b, .int (nI n), .int tk0, .int st0, .int en0, .int va0, .ref (r + 20), .int si])))) {nu : Nat → Int32} (h_nu : σ.2 (r + 20) = some (.inl (0, 4, nu))) (hS : isS σ (r + 1) S) (hn16 : S.1 ≤ 16) {nn : Nat → Nat} (hnu : ∀ i, i < 2 → nu i = nI (nn i)) (hu : nn 0 < S.1) : RetX Γ m_Reader_tell [.ref r, .int 2] σ (r + 1) (r + 12) none (fun τ => isS τ (r + 1) (LnF 2 nn S)) := by
  obtain ⟨h0, h1, h2, h3, h4, h5, h6, h7, h8, h9, h10⟩ := id hS
  unfold RetX
  generalize hQ : ((fun (r0 : Option Value) (τ : ex_S) => r0 = none ∧ frm σ τ (r + 1) (r + 12) ∧ (fun τ : ex_S => isS τ (r + 1) (LnF 2 nn S)) τ)) = Q
  refine Ret.start pm_122 rfl ?_
  have fr : frm σ σ (r + 1) (r + 1 + 11) := frm.rf
  refine Ev.aload_n rfl rfl ?_
  refine Ev.getf rfl rfl h_rd rfl ?_
  refine Ev.iconst (v := 0) rfl (by decide) ?_
  refine Ev.ialdN (k := 0) rfl h_nu (rfl : (0 : Int32) = nI 0) ⟨(by omega), by decide⟩ ?_
  rw [show nu 0 = nI (nn 0) from hnu 0 (by decide)]
  refine Ev.istore_n rfl rfl rfl ?_
  refine Ev.aload_n rfl rfl ?_
  refine Ev.getf rfl rfl h_rd rfl ?_
  refine Ev.iconst (v := 1) rfl (by decide) ?_
  refine Ev.ialdN (k := 1) rfl h_nu (rfl : (1 : Int32) = nI 1) ⟨(by omega), by decide⟩ ?_
  rw [show nu 1 = nI (nn 1) from hnu 1 (by decide)]
  refine Ev.istore_n rfl rfl rfl ?_
  refine Ev.aload_n rfl rfl ?_
  refine Ev.getf rfl rfl h_rd rfl ?_
  refine Ev.iconst (v := 2) rfl (by decide) ?_
  refine Ev.ialdN (k := 2) rfl h_nu (rfl : (2 : Int32) = nI 2) ⟨(by omega), by decide⟩ ?_
  refine Ev.istore rfl rfl rfl ?_
  refine Ev.iload_n rfl rfl ?_
  refine Ev.zne (tgt := 40) rfl (by decide) (fun c23 => ?_) (fun c23 => absurd c23 (by decide))
  refine Ev.iload_n rfl rfl ?_
  refine Ev.iconst (v := 1) rfl (by decide) ?_
  refine Ev.jne (tgt := 57) rfl (by decide) (fun c42 => ?_) (fun c42 => absurd c42 (by decide))
  refine Ev.iload_n rfl rfl ?_
  refine Ev.iconst (v := 2) rfl (by decide) ?_
  refine Ev.jne (tgt := 86) rfl (by decide) (fun c59 => absurd (by decide) c59) (fun c59 => ?_)
  refine Ev.aload_n rfl rfl ?_
  refine Ev.getf rfl rfl h_rd rfl ?_
  refine Ev.iload_n rfl rfl ?_
  refine Ev.cV1 rfl rfl h0 rfl rfl (by decide) ⟨(Nat.le_refl _), (Nat.le_refl _)⟩ (has_ok hS (nI (nn 0))) ?_
  rw [has_yes hu hn16]
  refine Ev.zeq (tgt := 86) rfl (by decide) (fun c70 => absurd c70 (by decide)) (fun c70 => ?_)
  refine Ev.aload_n rfl rfl ?_
  refine Ev.getf rfl rfl h_rd rfl ?_
  refine Ev.getf rfl rfl h0 rfl ?_
  refine Ev.iload_n rfl rfl ?_
  refine Ev.iload_n rfl rfl ?_
  refine Ev.iastE (k := nn 0) rfl h5 rfl ⟨(by omega), by decide⟩ (fun τ1 f1 h5 => ?_)
  have h_rd := frm.cell f1 h_rd (by omega)
  have h_nu := frm.cell f1 h_nu (by omega)
  have h0 := frm.cell f1 h0 (by omega)
  have h1 := frm.cell f1 h1 (by omega)
  have h2 := frm.cell f1 h2 (by omega)
  have h3 := frm.cell f1 h3 (by omega)
  have h4 := frm.cell f1 h4 (by omega)
  have h6 := frm.cell f1 h6 (by omega)
  have h7 := frm.cell f1 h7 (by omega)
  have h8 := frm.cell f1 h8 (by omega)
  have h9 := frm.cell f1 h9 (by omega)
  have h10 := frm.cell f1 h10 (by omega)
  have fr := fr.step f1 (by omega) (by omega)
  refine Ev.goto (tgt := 328) rfl (by decide) ?_
  refine Ev.ret rfl rfl (Nat.le_refl _) (Nat.le_refl _) ?_
  rw [← hQ]
  exact ⟨rfl, fr, ⟨h0, h1, h2, h3, h4, h5, h6, h7, h8, h9, h10⟩⟩
theorem tell_3 {fa pl tk0 st0 en0 va0 si : Int32} (h_rd : σ.2 r = some (.inr (.inr (5, [.ref (r + 1), .ref (r + 12), .int fa, .int pl, .ref b, .int (nI n), .int tk0, .int st0, .int en0, .int va0, .ref (r + 20), .int si])))) {nu : Nat → Int32} (h_nu : σ.2 (r + 20) = some (.inl (0, 4, nu))) (hS : isS σ (r + 1) S) (hn16 : S.1 ≤ 16) {nn : Nat → Nat} (hnu : ∀ i, i < 2 → nu i = nI (nn i)) (ht5 : S.2.1 < 5) : RetX Γ m_Reader_tell [.ref r, .int 3] σ (r + 1) (r + 12) none (fun τ => isS τ (r + 1) (LnF 3 nn S)) := by
  obtain ⟨h0, h1, h2, h3, h4, h5, h6, h7, h8, h9, h10⟩ := id hS
  unfold RetX
  generalize hQ : ((fun (r0 : Option Value) (τ : ex_S) => r0 = none ∧ frm σ τ (r + 1) (r + 12) ∧ (fun τ : ex_S => isS τ (r + 1) (LnF 3 nn S)) τ)) = Q
  refine Ret.start pm_122 rfl ?_
  have fr : frm σ σ (r + 1) (r + 1 + 11) := frm.rf
  refine Ev.aload_n rfl rfl ?_
  refine Ev.getf rfl rfl h_rd rfl ?_
  refine Ev.iconst (v := 0) rfl (by decide) ?_
  refine Ev.ialdN (k := 0) rfl h_nu (rfl : (0 : Int32) = nI 0) ⟨(by omega), by decide⟩ ?_
  rw [show nu 0 = nI (nn 0) from hnu 0 (by decide)]
  refine Ev.istore_n rfl rfl rfl ?_
  refine Ev.aload_n rfl rfl ?_
  refine Ev.getf rfl rfl h_rd rfl ?_
  refine Ev.iconst (v := 1) rfl (by decide) ?_
  refine Ev.ialdN (k := 1) rfl h_nu (rfl : (1 : Int32) = nI 1) ⟨(by omega), by decide⟩ ?_
  rw [show nu 1 = nI (nn 1) from hnu 1 (by decide)]
  refine Ev.istore_n rfl rfl rfl ?_
  refine Ev.aload_n rfl rfl ?_
  refine Ev.getf rfl rfl h_rd rfl ?_
  refine Ev.iconst (v := 2) rfl (by decide) ?_
  refine Ev.ialdN (k := 2) rfl h_nu (rfl : (2 : Int32) = nI 2) ⟨(by omega), by decide⟩ ?_
  refine Ev.istore rfl rfl rfl ?_
  refine Ev.iload_n rfl rfl ?_
  refine Ev.zne (tgt := 40) rfl (by decide) (fun c23 => ?_) (fun c23 => absurd c23 (by decide))
  refine Ev.iload_n rfl rfl ?_
  refine Ev.iconst (v := 1) rfl (by decide) ?_
  refine Ev.jne (tgt := 57) rfl (by decide) (fun c42 => ?_) (fun c42 => absurd c42 (by decide))
  refine Ev.iload_n rfl rfl ?_
  refine Ev.iconst (v := 2) rfl (by decide) ?_
  refine Ev.jne (tgt := 86) rfl (by decide) (fun c59 => ?_) (fun c59 => absurd c59 (by decide))
  refine Ev.iload_n rfl rfl ?_
  refine Ev.iconst (v := 3) rfl (by decide) ?_
  refine Ev.jne (tgt := 103) rfl (by decide) (fun c88 => absurd (by decide) c88) (fun c88 => ?_)
  refine Ev.aload_n rfl rfl ?_
  refine Ev.getf rfl rfl h_rd rfl ?_
  refine Ev.iload_n rfl rfl ?_
  refine Ev.iload_n rfl rfl ?_
  refine Ev.xV2u rfl rfl h0 rfl rfl (by decide) ⟨(Nat.le_refl _), (Nat.le_refl _)⟩ (addT_ok hS ht5 _ _) (fun τ700 f9 q9 => ?_)
  have fr := fr.step f9 (by omega) (by omega)
  refine Ev.goto (tgt := 328) rfl (by decide) ?_
  refine Ev.ret rfl rfl (Nat.le_refl _) (Nat.le_refl _) ?_
  rw [← hQ]
  exact ⟨rfl, fr, q9⟩
theorem tell_4 {fa pl tk0 st0 en0 va0 si : Int32} (h_rd : σ.2 r = some (.inr (.inr (5, [.ref (r + 1), .ref (r + 12), .int fa, .int pl, .ref b, .int (nI n), .int tk0, .int st0, .int en0, .int va0, .ref (r + 20), .int si])))) {nu : Nat → Int32} (h_nu : σ.2 (r + 20) = some (.inl (0, 4, nu))) (hS : isS σ (r + 1) S) (hn16 : S.1 ≤ 16) {nn : Nat → Nat} (hnu : ∀ i, i < 3 → nu i = nI (nn i)) (hu : nn 0 ≤ 3) : RetX Γ m_Reader_tell [.ref r, .int 4] σ (r + 1) (r + 12) none (fun τ => isS τ (r + 1) (LnF 4 nn S)) := by
  obtain ⟨h0, h1, h2, h3, h4, h5, h6, h7, h8, h9, h10⟩ := id hS
  unfold RetX
  generalize hQ : ((fun (r0 : Option Value) (τ : ex_S) => r0 = none ∧ frm σ τ (r + 1) (r + 12) ∧ (fun τ : ex_S => isS τ (r + 1) (LnF 4 nn S)) τ)) = Q
  refine Ret.start pm_122 rfl ?_
  have fr : frm σ σ (r + 1) (r + 1 + 11) := frm.rf
  refine Ev.aload_n rfl rfl ?_
  refine Ev.getf rfl rfl h_rd rfl ?_
  refine Ev.iconst (v := 0) rfl (by decide) ?_
  refine Ev.ialdN (k := 0) rfl h_nu (rfl : (0 : Int32) = nI 0) ⟨(by omega), by decide⟩ ?_
  rw [show nu 0 = nI (nn 0) from hnu 0 (by decide)]
  refine Ev.istore_n rfl rfl rfl ?_
  refine Ev.aload_n rfl rfl ?_
  refine Ev.getf rfl rfl h_rd rfl ?_
  refine Ev.iconst (v := 1) rfl (by decide) ?_
  refine Ev.ialdN (k := 1) rfl h_nu (rfl : (1 : Int32) = nI 1) ⟨(by omega), by decide⟩ ?_
  rw [show nu 1 = nI (nn 1) from hnu 1 (by decide)]
  refine Ev.istore_n rfl rfl rfl ?_
  refine Ev.aload_n rfl rfl ?_
  refine Ev.getf rfl rfl h_rd rfl ?_
  refine Ev.iconst (v := 2) rfl (by decide) ?_
  refine Ev.ialdN (k := 2) rfl h_nu (rfl : (2 : Int32) = nI 2) ⟨(by omega), by decide⟩ ?_
  rw [show nu 2 = nI (nn 2) from hnu 2 (by decide)]
  refine Ev.istore rfl rfl rfl ?_
  refine Ev.iload_n rfl rfl ?_
  refine Ev.zne (tgt := 40) rfl (by decide) (fun c23 => ?_) (fun c23 => absurd c23 (by decide))
  refine Ev.iload_n rfl rfl ?_
  refine Ev.iconst (v := 1) rfl (by decide) ?_
  refine Ev.jne (tgt := 57) rfl (by decide) (fun c42 => ?_) (fun c42 => absurd c42 (by decide))
  refine Ev.iload_n rfl rfl ?_
  refine Ev.iconst (v := 2) rfl (by decide) ?_
  refine Ev.jne (tgt := 86) rfl (by decide) (fun c59 => ?_) (fun c59 => absurd c59 (by decide))
  refine Ev.iload_n rfl rfl ?_
  refine Ev.iconst (v := 3) rfl (by decide) ?_
  refine Ev.jne (tgt := 103) rfl (by decide) (fun c88 => ?_) (fun c88 => absurd c88 (by decide))
  refine Ev.iload_n rfl rfl ?_
  refine Ev.iconst (v := 4) rfl (by decide) ?_
  refine Ev.jeq (tgt := 113) rfl (by decide) (fun c105 => ?_) (fun c105 => absurd (by decide) c105)
  refine Ev.iload_n rfl rfl ?_
  refine Ev.iconst (v := 3) rfl (by decide) ?_
  refine Ev.jgt (tgt := 160) rfl (by decide) (fun c115 => absurd c115 (nI_nlt (a := 3) (b := nn 0) (by omega) (by omega))) (fun c115 => ?_)
  refine Ev.iload_n rfl rfl ?_
  refine Ev.iconst (v := 4) rfl (by decide) ?_
  refine Ev.jne (tgt := 129) rfl (by decide) (fun c120 => absurd (by decide) c120) (fun c120 => ?_)
  refine Ev.iconst (v := 3) rfl (by decide) ?_
  refine Ev.iload_n rfl rfl ?_
  refine Ev.iadd rfl ?_
  refine Ev.goto (tgt := 132) rfl (by decide) ?_
  refine Ev.istore rfl rfl rfl ?_
  refine Ev.aload_n rfl rfl ?_
  refine Ev.getf rfl rfl h_rd rfl ?_
  refine Ev.getf rfl rfl h0 rfl ?_
  refine Ev.iload rfl rfl ?_
  refine Ev.iload_n rfl rfl ?_
  refine Ev.iastE (k := 3 + (nn 0)) rfl h8 (nq_add (a := 3) (b := nn 0) (rfl : (3 : Int32) = nI 3) rfl) ⟨(by omega), by decide⟩ (fun τ1 f1 h8 => ?_)
  have h_rd := frm.cell f1 h_rd (by omega)
  have h_nu := frm.cell f1 h_nu (by omega)
  have h0 := frm.cell f1 h0 (by omega)
  have h1 := frm.cell f1 h1 (by omega)
  have h2 := frm.cell f1 h2 (by omega)
  have h3 := frm.cell f1 h3 (by omega)
  have h4 := frm.cell f1 h4 (by omega)
  have h5 := frm.cell f1 h5 (by omega)
  have h6 := frm.cell f1 h6 (by omega)
  have h7 := frm.cell f1 h7 (by omega)
  have h9 := frm.cell f1 h9 (by omega)
  have h10 := frm.cell f1 h10 (by omega)
  have fr := fr.step f1 (by omega) (by omega)
  refine Ev.aload_n rfl rfl ?_
  refine Ev.getf rfl rfl h_rd rfl ?_
  refine Ev.getf rfl rfl h0 rfl ?_
  refine Ev.iload rfl rfl ?_
  refine Ev.iload rfl rfl ?_
  refine Ev.iastE (k := 3 + (nn 0)) rfl h9 (nq_add (a := 3) (b := nn 0) (rfl : (3 : Int32) = nI 3) rfl) ⟨(by omega), by decide⟩ (fun τ2 f1 h9 => ?_)
  have h_rd := frm.cell f1 h_rd (by omega)
  have h_nu := frm.cell f1 h_nu (by omega)
  have h0 := frm.cell f1 h0 (by omega)
  have h1 := frm.cell f1 h1 (by omega)
  have h2 := frm.cell f1 h2 (by omega)
  have h3 := frm.cell f1 h3 (by omega)
  have h4 := frm.cell f1 h4 (by omega)
  have h5 := frm.cell f1 h5 (by omega)
  have h6 := frm.cell f1 h6 (by omega)
  have h7 := frm.cell f1 h7 (by omega)
  have h8 := frm.cell f1 h8 (by omega)
  have h10 := frm.cell f1 h10 (by omega)
  have fr := fr.step f1 (by omega) (by omega)
  refine Ev.goto (tgt := 328) rfl (by decide) ?_
  refine Ev.ret rfl rfl (Nat.le_refl _) (Nat.le_refl _) ?_
  rw [← hQ]
  exact ⟨rfl, fr, ⟨h0, h1, h2, h3, h4, h5, h6, h7, h8, h9, h10⟩⟩
theorem tell_5 {fa pl tk0 st0 en0 va0 si : Int32} (h_rd : σ.2 r = some (.inr (.inr (5, [.ref (r + 1), .ref (r + 12), .int fa, .int pl, .ref b, .int (nI n), .int tk0, .int st0, .int en0, .int va0, .ref (r + 20), .int si])))) {nu : Nat → Int32} (h_nu : σ.2 (r + 20) = some (.inl (0, 4, nu))) (hS : isS σ (r + 1) S) (hn16 : S.1 ≤ 16) {nn : Nat → Nat} (hnu : ∀ i, i < 3 → nu i = nI (nn i)) (hu : nn 0 ≤ 3) : RetX Γ m_Reader_tell [.ref r, .int 5] σ (r + 1) (r + 12) none (fun τ => isS τ (r + 1) (LnF 5 nn S)) := by
  obtain ⟨h0, h1, h2, h3, h4, h5, h6, h7, h8, h9, h10⟩ := id hS
  unfold RetX
  generalize hQ : ((fun (r0 : Option Value) (τ : ex_S) => r0 = none ∧ frm σ τ (r + 1) (r + 12) ∧ (fun τ : ex_S => isS τ (r + 1) (LnF 5 nn S)) τ)) = Q
  refine Ret.start pm_122 rfl ?_
  have fr : frm σ σ (r + 1) (r + 1 + 11) := frm.rf
  refine Ev.aload_n rfl rfl ?_
  refine Ev.getf rfl rfl h_rd rfl ?_
  refine Ev.iconst (v := 0) rfl (by decide) ?_
  refine Ev.ialdN (k := 0) rfl h_nu (rfl : (0 : Int32) = nI 0) ⟨(by omega), by decide⟩ ?_
  rw [show nu 0 = nI (nn 0) from hnu 0 (by decide)]
  refine Ev.istore_n rfl rfl rfl ?_
  refine Ev.aload_n rfl rfl ?_
  refine Ev.getf rfl rfl h_rd rfl ?_
  refine Ev.iconst (v := 1) rfl (by decide) ?_
  refine Ev.ialdN (k := 1) rfl h_nu (rfl : (1 : Int32) = nI 1) ⟨(by omega), by decide⟩ ?_
  rw [show nu 1 = nI (nn 1) from hnu 1 (by decide)]
  refine Ev.istore_n rfl rfl rfl ?_
  refine Ev.aload_n rfl rfl ?_
  refine Ev.getf rfl rfl h_rd rfl ?_
  refine Ev.iconst (v := 2) rfl (by decide) ?_
  refine Ev.ialdN (k := 2) rfl h_nu (rfl : (2 : Int32) = nI 2) ⟨(by omega), by decide⟩ ?_
  rw [show nu 2 = nI (nn 2) from hnu 2 (by decide)]
  refine Ev.istore rfl rfl rfl ?_
  refine Ev.iload_n rfl rfl ?_
  refine Ev.zne (tgt := 40) rfl (by decide) (fun c23 => ?_) (fun c23 => absurd c23 (by decide))
  refine Ev.iload_n rfl rfl ?_
  refine Ev.iconst (v := 1) rfl (by decide) ?_
  refine Ev.jne (tgt := 57) rfl (by decide) (fun c42 => ?_) (fun c42 => absurd c42 (by decide))
  refine Ev.iload_n rfl rfl ?_
  refine Ev.iconst (v := 2) rfl (by decide) ?_
  refine Ev.jne (tgt := 86) rfl (by decide) (fun c59 => ?_) (fun c59 => absurd c59 (by decide))
  refine Ev.iload_n rfl rfl ?_
  refine Ev.iconst (v := 3) rfl (by decide) ?_
  refine Ev.jne (tgt := 103) rfl (by decide) (fun c88 => ?_) (fun c88 => absurd c88 (by decide))
  refine Ev.iload_n rfl rfl ?_
  refine Ev.iconst (v := 4) rfl (by decide) ?_
  refine Ev.jeq (tgt := 113) rfl (by decide) (fun c105 => absurd c105 (by decide)) (fun c105 => ?_)
  refine Ev.iload_n rfl rfl ?_
  refine Ev.iconst (v := 5) rfl (by decide) ?_
  refine Ev.jne (tgt := 160) rfl (by decide) (fun c110 => absurd (by decide) c110) (fun c110 => ?_)
  refine Ev.iload_n rfl rfl ?_
  refine Ev.iconst (v := 3) rfl (by decide) ?_
  refine Ev.jgt (tgt := 160) rfl (by decide) (fun c115 => absurd c115 (nI_nlt (a := 3) (b := nn 0) (by omega) (by omega))) (fun c115 => ?_)
  refine Ev.iload_n rfl rfl ?_
  refine Ev.iconst (v := 4) rfl (by decide) ?_
  refine Ev.jne (tgt := 129) rfl (by decide) (fun c120 => ?_) (fun c120 => absurd c120 (by decide))
  refine Ev.iconst (v := 3) rfl (by decide) ?_
  refine Ev.iload_n rfl rfl ?_
  refine Ev.isub rfl ?_
  refine Ev.istore rfl rfl rfl ?_
  refine Ev.aload_n rfl rfl ?_
  refine Ev.getf rfl rfl h_rd rfl ?_
  refine Ev.getf rfl rfl h0 rfl ?_
  refine Ev.iload rfl rfl ?_
  refine Ev.iload_n rfl rfl ?_
  refine Ev.iastE (k := 3 - (nn 0)) rfl h8 (nq_sub (a := 3) (b := nn 0) (rfl : (3 : Int32) = nI 3) rfl (by omega)) ⟨(by omega), by decide⟩ (fun τ1 f1 h8 => ?_)
  have h_rd := frm.cell f1 h_rd (by omega)
  have h_nu := frm.cell f1 h_nu (by omega)
  have h0 := frm.cell f1 h0 (by omega)
  have h1 := frm.cell f1 h1 (by omega)
  have h2 := frm.cell f1 h2 (by omega)
  have h3 := frm.cell f1 h3 (by omega)
  have h4 := frm.cell f1 h4 (by omega)
  have h5 := frm.cell f1 h5 (by omega)
  have h6 := frm.cell f1 h6 (by omega)
  have h7 := frm.cell f1 h7 (by omega)
  have h9 := frm.cell f1 h9 (by omega)
  have h10 := frm.cell f1 h10 (by omega)
  have fr := fr.step f1 (by omega) (by omega)
  refine Ev.aload_n rfl rfl ?_
  refine Ev.getf rfl rfl h_rd rfl ?_
  refine Ev.getf rfl rfl h0 rfl ?_
  refine Ev.iload rfl rfl ?_
  refine Ev.iload rfl rfl ?_
  refine Ev.iastE (k := 3 - (nn 0)) rfl h9 (nq_sub (a := 3) (b := nn 0) (rfl : (3 : Int32) = nI 3) rfl (by omega)) ⟨(by omega), by decide⟩ (fun τ2 f1 h9 => ?_)
  have h_rd := frm.cell f1 h_rd (by omega)
  have h_nu := frm.cell f1 h_nu (by omega)
  have h0 := frm.cell f1 h0 (by omega)
  have h1 := frm.cell f1 h1 (by omega)
  have h2 := frm.cell f1 h2 (by omega)
  have h3 := frm.cell f1 h3 (by omega)
  have h4 := frm.cell f1 h4 (by omega)
  have h5 := frm.cell f1 h5 (by omega)
  have h6 := frm.cell f1 h6 (by omega)
  have h7 := frm.cell f1 h7 (by omega)
  have h8 := frm.cell f1 h8 (by omega)
  have h10 := frm.cell f1 h10 (by omega)
  have fr := fr.step f1 (by omega) (by omega)
  refine Ev.goto (tgt := 328) rfl (by decide) ?_
  refine Ev.ret rfl rfl (Nat.le_refl _) (Nat.le_refl _) ?_
  rw [← hQ]
  exact ⟨rfl, fr, ⟨h0, h1, h2, h3, h4, h5, h6, h7, h8, h9, h10⟩⟩
theorem tell_6 {fa pl tk0 st0 en0 va0 si : Int32} (h_rd : σ.2 r = some (.inr (.inr (5, [.ref (r + 1), .ref (r + 12), .int fa, .int pl, .ref b, .int (nI n), .int tk0, .int st0, .int en0, .int va0, .ref (r + 20), .int si])))) {nu : Nat → Int32} (h_nu : σ.2 (r + 20) = some (.inl (0, 4, nu))) (hS : isS σ (r + 1) S) (hn16 : S.1 ≤ 16) {nn : Nat → Nat} (hnu : ∀ i, i < 2 → nu i = nI (nn i))  : RetX Γ m_Reader_tell [.ref r, .int 6] σ (r + 1) (r + 12) none (fun τ => isS τ (r + 1) (LnF 6 nn S)) := by
  obtain ⟨h0, h1, h2, h3, h4, h5, h6, h7, h8, h9, h10⟩ := id hS
  unfold RetX
  generalize hQ : ((fun (r0 : Option Value) (τ : ex_S) => r0 = none ∧ frm σ τ (r + 1) (r + 12) ∧ (fun τ : ex_S => isS τ (r + 1) (LnF 6 nn S)) τ)) = Q
  refine Ret.start pm_122 rfl ?_
  have fr : frm σ σ (r + 1) (r + 1 + 11) := frm.rf
  refine Ev.aload_n rfl rfl ?_
  refine Ev.getf rfl rfl h_rd rfl ?_
  refine Ev.iconst (v := 0) rfl (by decide) ?_
  refine Ev.ialdN (k := 0) rfl h_nu (rfl : (0 : Int32) = nI 0) ⟨(by omega), by decide⟩ ?_
  rw [show nu 0 = nI (nn 0) from hnu 0 (by decide)]
  refine Ev.istore_n rfl rfl rfl ?_
  refine Ev.aload_n rfl rfl ?_
  refine Ev.getf rfl rfl h_rd rfl ?_
  refine Ev.iconst (v := 1) rfl (by decide) ?_
  refine Ev.ialdN (k := 1) rfl h_nu (rfl : (1 : Int32) = nI 1) ⟨(by omega), by decide⟩ ?_
  rw [show nu 1 = nI (nn 1) from hnu 1 (by decide)]
  refine Ev.istore_n rfl rfl rfl ?_
  refine Ev.aload_n rfl rfl ?_
  refine Ev.getf rfl rfl h_rd rfl ?_
  refine Ev.iconst (v := 2) rfl (by decide) ?_
  refine Ev.ialdN (k := 2) rfl h_nu (rfl : (2 : Int32) = nI 2) ⟨(by omega), by decide⟩ ?_
  refine Ev.istore rfl rfl rfl ?_
  refine Ev.iload_n rfl rfl ?_
  refine Ev.zne (tgt := 40) rfl (by decide) (fun c23 => ?_) (fun c23 => absurd c23 (by decide))
  refine Ev.iload_n rfl rfl ?_
  refine Ev.iconst (v := 1) rfl (by decide) ?_
  refine Ev.jne (tgt := 57) rfl (by decide) (fun c42 => ?_) (fun c42 => absurd c42 (by decide))
  refine Ev.iload_n rfl rfl ?_
  refine Ev.iconst (v := 2) rfl (by decide) ?_
  refine Ev.jne (tgt := 86) rfl (by decide) (fun c59 => ?_) (fun c59 => absurd c59 (by decide))
  refine Ev.iload_n rfl rfl ?_
  refine Ev.iconst (v := 3) rfl (by decide) ?_
  refine Ev.jne (tgt := 103) rfl (by decide) (fun c88 => ?_) (fun c88 => absurd c88 (by decide))
  refine Ev.iload_n rfl rfl ?_
  refine Ev.iconst (v := 4) rfl (by decide) ?_
  refine Ev.jeq (tgt := 113) rfl (by decide) (fun c105 => absurd c105 (by decide)) (fun c105 => ?_)
  refine Ev.iload_n rfl rfl ?_
  refine Ev.iconst (v := 5) rfl (by decide) ?_
  refine Ev.jne (tgt := 160) rfl (by decide) (fun c110 => ?_) (fun c110 => absurd c110 (by decide))
  refine Ev.iload_n rfl rfl ?_
  refine Ev.bipush (v := 6) rfl (by decide) ?_
  refine Ev.jne (tgt := 189) rfl (by decide) (fun c163 => absurd (by decide) c163) (fun c163 => ?_)
  refine Ev.aload_n rfl rfl ?_
  refine Ev.getf rfl rfl h_rd rfl ?_
  refine Ev.getf rfl rfl h0 rfl ?_
  refine Ev.iconst (v := 0) rfl (by decide) ?_
  refine Ev.iload_n rfl rfl ?_
  refine Ev.iastE (k := 0) rfl h10 (rfl : (0 : Int32) = nI 0) ⟨(by omega), by decide⟩ (fun τ1 f1 h10 => ?_)
  have h_rd := frm.cell f1 h_rd (by omega)
  have h_nu := frm.cell f1 h_nu (by omega)
  have h0 := frm.cell f1 h0 (by omega)
  have h1 := frm.cell f1 h1 (by omega)
  have h2 := frm.cell f1 h2 (by omega)
  have h3 := frm.cell f1 h3 (by omega)
  have h4 := frm.cell f1 h4 (by omega)
  have h5 := frm.cell f1 h5 (by omega)
  have h6 := frm.cell f1 h6 (by omega)
  have h7 := frm.cell f1 h7 (by omega)
  have h8 := frm.cell f1 h8 (by omega)
  have h9 := frm.cell f1 h9 (by omega)
  have fr := fr.step f1 (by omega) (by omega)
  refine Ev.aload_n rfl rfl ?_
  refine Ev.getf rfl rfl h_rd rfl ?_
  refine Ev.getf rfl rfl h0 rfl ?_
  refine Ev.iconst (v := 1) rfl (by decide) ?_
  refine Ev.iload_n rfl rfl ?_
  refine Ev.iastE (k := 1) rfl h10 (rfl : (1 : Int32) = nI 1) ⟨(by omega), by decide⟩ (fun τ2 f1 h10 => ?_)
  have h_rd := frm.cell f1 h_rd (by omega)
  have h_nu := frm.cell f1 h_nu (by omega)
  have h0 := frm.cell f1 h0 (by omega)
  have h1 := frm.cell f1 h1 (by omega)
  have h2 := frm.cell f1 h2 (by omega)
  have h3 := frm.cell f1 h3 (by omega)
  have h4 := frm.cell f1 h4 (by omega)
  have h5 := frm.cell f1 h5 (by omega)
  have h6 := frm.cell f1 h6 (by omega)
  have h7 := frm.cell f1 h7 (by omega)
  have h8 := frm.cell f1 h8 (by omega)
  have h9 := frm.cell f1 h9 (by omega)
  have fr := fr.step f1 (by omega) (by omega)
  refine Ev.goto (tgt := 328) rfl (by decide) ?_
  refine Ev.ret rfl rfl (Nat.le_refl _) (Nat.le_refl _) ?_
  rw [← hQ]
  exact ⟨rfl, fr, ⟨h0, h1, h2, h3, h4, h5, h6, h7, h8, h9, h10⟩⟩
theorem tell_7 {fa pl tk0 st0 en0 va0 si : Int32} (h_rd : σ.2 r = some (.inr (.inr (5, [.ref (r + 1), .ref (r + 12), .int fa, .int pl, .ref b, .int (nI n), .int tk0, .int st0, .int en0, .int va0, .ref (r + 20), .int si])))) {nu : Nat → Int32} (h_nu : σ.2 (r + 20) = some (.inl (0, 4, nu))) (hS : isS σ (r + 1) S) (hn16 : S.1 ≤ 16) {nn : Nat → Nat} (hnu : ∀ i, i < 2 → nu i = nI (nn i))  : RetX Γ m_Reader_tell [.ref r, .int 7] σ (r + 1) (r + 12) none (fun τ => isS τ (r + 1) (LnF 7 nn S)) := by
  obtain ⟨h0, h1, h2, h3, h4, h5, h6, h7, h8, h9, h10⟩ := id hS
  unfold RetX
  generalize hQ : ((fun (r0 : Option Value) (τ : ex_S) => r0 = none ∧ frm σ τ (r + 1) (r + 12) ∧ (fun τ : ex_S => isS τ (r + 1) (LnF 7 nn S)) τ)) = Q
  refine Ret.start pm_122 rfl ?_
  have fr : frm σ σ (r + 1) (r + 1 + 11) := frm.rf
  refine Ev.aload_n rfl rfl ?_
  refine Ev.getf rfl rfl h_rd rfl ?_
  refine Ev.iconst (v := 0) rfl (by decide) ?_
  refine Ev.ialdN (k := 0) rfl h_nu (rfl : (0 : Int32) = nI 0) ⟨(by omega), by decide⟩ ?_
  rw [show nu 0 = nI (nn 0) from hnu 0 (by decide)]
  refine Ev.istore_n rfl rfl rfl ?_
  refine Ev.aload_n rfl rfl ?_
  refine Ev.getf rfl rfl h_rd rfl ?_
  refine Ev.iconst (v := 1) rfl (by decide) ?_
  refine Ev.ialdN (k := 1) rfl h_nu (rfl : (1 : Int32) = nI 1) ⟨(by omega), by decide⟩ ?_
  rw [show nu 1 = nI (nn 1) from hnu 1 (by decide)]
  refine Ev.istore_n rfl rfl rfl ?_
  refine Ev.aload_n rfl rfl ?_
  refine Ev.getf rfl rfl h_rd rfl ?_
  refine Ev.iconst (v := 2) rfl (by decide) ?_
  refine Ev.ialdN (k := 2) rfl h_nu (rfl : (2 : Int32) = nI 2) ⟨(by omega), by decide⟩ ?_
  refine Ev.istore rfl rfl rfl ?_
  refine Ev.iload_n rfl rfl ?_
  refine Ev.zne (tgt := 40) rfl (by decide) (fun c23 => ?_) (fun c23 => absurd c23 (by decide))
  refine Ev.iload_n rfl rfl ?_
  refine Ev.iconst (v := 1) rfl (by decide) ?_
  refine Ev.jne (tgt := 57) rfl (by decide) (fun c42 => ?_) (fun c42 => absurd c42 (by decide))
  refine Ev.iload_n rfl rfl ?_
  refine Ev.iconst (v := 2) rfl (by decide) ?_
  refine Ev.jne (tgt := 86) rfl (by decide) (fun c59 => ?_) (fun c59 => absurd c59 (by decide))
  refine Ev.iload_n rfl rfl ?_
  refine Ev.iconst (v := 3) rfl (by decide) ?_
  refine Ev.jne (tgt := 103) rfl (by decide) (fun c88 => ?_) (fun c88 => absurd c88 (by decide))
  refine Ev.iload_n rfl rfl ?_
  refine Ev.iconst (v := 4) rfl (by decide) ?_
  refine Ev.jeq (tgt := 113) rfl (by decide) (fun c105 => absurd c105 (by decide)) (fun c105 => ?_)
  refine Ev.iload_n rfl rfl ?_
  refine Ev.iconst (v := 5) rfl (by decide) ?_
  refine Ev.jne (tgt := 160) rfl (by decide) (fun c110 => ?_) (fun c110 => absurd c110 (by decide))
  refine Ev.iload_n rfl rfl ?_
  refine Ev.bipush (v := 6) rfl (by decide) ?_
  refine Ev.jne (tgt := 189) rfl (by decide) (fun c163 => ?_) (fun c163 => absurd c163 (by decide))
  refine Ev.iload_n rfl rfl ?_
  refine Ev.bipush (v := 7) rfl (by decide) ?_
  refine Ev.jne (tgt := 218) rfl (by decide) (fun c192 => absurd (by decide) c192) (fun c192 => ?_)
  refine Ev.aload_n rfl rfl ?_
  refine Ev.getf rfl rfl h_rd rfl ?_
  refine Ev.getf rfl rfl h0 rfl ?_
  refine Ev.iconst (v := 2) rfl (by decide) ?_
  refine Ev.iload_n rfl rfl ?_
  refine Ev.iastE (k := 2) rfl h10 (rfl : (2 : Int32) = nI 2) ⟨(by omega), by decide⟩ (fun τ1 f1 h10 => ?_)
  have h_rd := frm.cell f1 h_rd (by omega)
  have h_nu := frm.cell f1 h_nu (by omega)
  have h0 := frm.cell f1 h0 (by omega)
  have h1 := frm.cell f1 h1 (by omega)
  have h2 := frm.cell f1 h2 (by omega)
  have h3 := frm.cell f1 h3 (by omega)
  have h4 := frm.cell f1 h4 (by omega)
  have h5 := frm.cell f1 h5 (by omega)
  have h6 := frm.cell f1 h6 (by omega)
  have h7 := frm.cell f1 h7 (by omega)
  have h8 := frm.cell f1 h8 (by omega)
  have h9 := frm.cell f1 h9 (by omega)
  have fr := fr.step f1 (by omega) (by omega)
  refine Ev.aload_n rfl rfl ?_
  refine Ev.getf rfl rfl h_rd rfl ?_
  refine Ev.getf rfl rfl h0 rfl ?_
  refine Ev.iconst (v := 3) rfl (by decide) ?_
  refine Ev.iload_n rfl rfl ?_
  refine Ev.iastE (k := 3) rfl h10 (rfl : (3 : Int32) = nI 3) ⟨(by omega), by decide⟩ (fun τ2 f1 h10 => ?_)
  have h_rd := frm.cell f1 h_rd (by omega)
  have h_nu := frm.cell f1 h_nu (by omega)
  have h0 := frm.cell f1 h0 (by omega)
  have h1 := frm.cell f1 h1 (by omega)
  have h2 := frm.cell f1 h2 (by omega)
  have h3 := frm.cell f1 h3 (by omega)
  have h4 := frm.cell f1 h4 (by omega)
  have h5 := frm.cell f1 h5 (by omega)
  have h6 := frm.cell f1 h6 (by omega)
  have h7 := frm.cell f1 h7 (by omega)
  have h8 := frm.cell f1 h8 (by omega)
  have h9 := frm.cell f1 h9 (by omega)
  have fr := fr.step f1 (by omega) (by omega)
  refine Ev.goto (tgt := 328) rfl (by decide) ?_
  refine Ev.ret rfl rfl (Nat.le_refl _) (Nat.le_refl _) ?_
  rw [← hQ]
  exact ⟨rfl, fr, ⟨h0, h1, h2, h3, h4, h5, h6, h7, h8, h9, h10⟩⟩
theorem tell_8 {fa pl tk0 st0 en0 va0 si : Int32} (h_rd : σ.2 r = some (.inr (.inr (5, [.ref (r + 1), .ref (r + 12), .int fa, .int pl, .ref b, .int (nI n), .int tk0, .int st0, .int en0, .int va0, .ref (r + 20), .int si])))) {nu : Nat → Int32} (h_nu : σ.2 (r + 20) = some (.inl (0, 4, nu))) (hS : isS σ (r + 1) S) (hn16 : S.1 ≤ 16) {nn : Nat → Nat} (hnu : ∀ i, i < 1 → nu i = nI (nn i))  : RetX Γ m_Reader_tell [.ref r, .int 8] σ (r + 1) (r + 12) none (fun τ => isS τ (r + 1) (LnF 8 nn S)) := by
  obtain ⟨h0, h1, h2, h3, h4, h5, h6, h7, h8, h9, h10⟩ := id hS
  unfold RetX
  generalize hQ : ((fun (r0 : Option Value) (τ : ex_S) => r0 = none ∧ frm σ τ (r + 1) (r + 12) ∧ (fun τ : ex_S => isS τ (r + 1) (LnF 8 nn S)) τ)) = Q
  refine Ret.start pm_122 rfl ?_
  have fr : frm σ σ (r + 1) (r + 1 + 11) := frm.rf
  refine Ev.aload_n rfl rfl ?_
  refine Ev.getf rfl rfl h_rd rfl ?_
  refine Ev.iconst (v := 0) rfl (by decide) ?_
  refine Ev.ialdN (k := 0) rfl h_nu (rfl : (0 : Int32) = nI 0) ⟨(by omega), by decide⟩ ?_
  rw [show nu 0 = nI (nn 0) from hnu 0 (by decide)]
  refine Ev.istore_n rfl rfl rfl ?_
  refine Ev.aload_n rfl rfl ?_
  refine Ev.getf rfl rfl h_rd rfl ?_
  refine Ev.iconst (v := 1) rfl (by decide) ?_
  refine Ev.ialdN (k := 1) rfl h_nu (rfl : (1 : Int32) = nI 1) ⟨(by omega), by decide⟩ ?_
  refine Ev.istore_n rfl rfl rfl ?_
  refine Ev.aload_n rfl rfl ?_
  refine Ev.getf rfl rfl h_rd rfl ?_
  refine Ev.iconst (v := 2) rfl (by decide) ?_
  refine Ev.ialdN (k := 2) rfl h_nu (rfl : (2 : Int32) = nI 2) ⟨(by omega), by decide⟩ ?_
  refine Ev.istore rfl rfl rfl ?_
  refine Ev.iload_n rfl rfl ?_
  refine Ev.zne (tgt := 40) rfl (by decide) (fun c23 => ?_) (fun c23 => absurd c23 (by decide))
  refine Ev.iload_n rfl rfl ?_
  refine Ev.iconst (v := 1) rfl (by decide) ?_
  refine Ev.jne (tgt := 57) rfl (by decide) (fun c42 => ?_) (fun c42 => absurd c42 (by decide))
  refine Ev.iload_n rfl rfl ?_
  refine Ev.iconst (v := 2) rfl (by decide) ?_
  refine Ev.jne (tgt := 86) rfl (by decide) (fun c59 => ?_) (fun c59 => absurd c59 (by decide))
  refine Ev.iload_n rfl rfl ?_
  refine Ev.iconst (v := 3) rfl (by decide) ?_
  refine Ev.jne (tgt := 103) rfl (by decide) (fun c88 => ?_) (fun c88 => absurd c88 (by decide))
  refine Ev.iload_n rfl rfl ?_
  refine Ev.iconst (v := 4) rfl (by decide) ?_
  refine Ev.jeq (tgt := 113) rfl (by decide) (fun c105 => absurd c105 (by decide)) (fun c105 => ?_)
  refine Ev.iload_n rfl rfl ?_
  refine Ev.iconst (v := 5) rfl (by decide) ?_
  refine Ev.jne (tgt := 160) rfl (by decide) (fun c110 => ?_) (fun c110 => absurd c110 (by decide))
  refine Ev.iload_n rfl rfl ?_
  refine Ev.bipush (v := 6) rfl (by decide) ?_
  refine Ev.jne (tgt := 189) rfl (by decide) (fun c163 => ?_) (fun c163 => absurd c163 (by decide))
  refine Ev.iload_n rfl rfl ?_
  refine Ev.bipush (v := 7) rfl (by decide) ?_
  refine Ev.jne (tgt := 218) rfl (by decide) (fun c192 => ?_) (fun c192 => absurd c192 (by decide))
  refine Ev.iload_n rfl rfl ?_
  refine Ev.bipush (v := 8) rfl (by decide) ?_
  refine Ev.jlt (tgt := 248) rfl (by decide) (fun c221 => absurd c221 (by decide)) (fun c221 => ?_)
  refine Ev.iload_n rfl rfl ?_
  refine Ev.bipush (v := 15) rfl (by decide) ?_
  refine Ev.jge (tgt := 248) rfl (by decide) (fun c227 => absurd (by decide) c227) (fun c227 => ?_)
  refine Ev.aload_n rfl rfl ?_
  refine Ev.getf rfl rfl h_rd rfl ?_
  refine Ev.getf rfl rfl h0 rfl ?_
  refine Ev.iconst (v := 4) rfl (by decide) ?_
  refine Ev.iload_n rfl rfl ?_
  refine Ev.iadd rfl ?_
  refine Ev.bipush (v := 8) rfl (by decide) ?_
  refine Ev.isub rfl ?_
  refine Ev.iload_n rfl rfl ?_
  refine Ev.iastE (k := (4 + 8) - 8) rfl h10 (nq_sub (a := 4 + 8) (b := 8) (nq_add (a := 4) (b := 8) (rfl : (4 : Int32) = nI 4) (rfl : (8 : Int32) = nI 8)) (rfl : (8 : Int32) = nI 8) (by omega)) ⟨(by omega), by decide⟩ (fun τ1 f1 h10 => ?_)
  have h_rd := frm.cell f1 h_rd (by omega)
  have h_nu := frm.cell f1 h_nu (by omega)
  have h0 := frm.cell f1 h0 (by omega)
  have h1 := frm.cell f1 h1 (by omega)
  have h2 := frm.cell f1 h2 (by omega)
  have h3 := frm.cell f1 h3 (by omega)
  have h4 := frm.cell f1 h4 (by omega)
  have h5 := frm.cell f1 h5 (by omega)
  have h6 := frm.cell f1 h6 (by omega)
  have h7 := frm.cell f1 h7 (by omega)
  have h8 := frm.cell f1 h8 (by omega)
  have h9 := frm.cell f1 h9 (by omega)
  have fr := fr.step f1 (by omega) (by omega)
  refine Ev.goto (tgt := 328) rfl (by decide) ?_
  refine Ev.ret rfl rfl (Nat.le_refl _) (Nat.le_refl _) ?_
  rw [← hQ]
  exact ⟨rfl, fr, ⟨h0, h1, h2, h3, h4, h5, h6, h7, h8, h9, h10⟩⟩
theorem tell_9 {fa pl tk0 st0 en0 va0 si : Int32} (h_rd : σ.2 r = some (.inr (.inr (5, [.ref (r + 1), .ref (r + 12), .int fa, .int pl, .ref b, .int (nI n), .int tk0, .int st0, .int en0, .int va0, .ref (r + 20), .int si])))) {nu : Nat → Int32} (h_nu : σ.2 (r + 20) = some (.inl (0, 4, nu))) (hS : isS σ (r + 1) S) (hn16 : S.1 ≤ 16) {nn : Nat → Nat} (hnu : ∀ i, i < 1 → nu i = nI (nn i))  : RetX Γ m_Reader_tell [.ref r, .int 9] σ (r + 1) (r + 12) none (fun τ => isS τ (r + 1) (LnF 9 nn S)) := by
  obtain ⟨h0, h1, h2, h3, h4, h5, h6, h7, h8, h9, h10⟩ := id hS
  unfold RetX
  generalize hQ : ((fun (r0 : Option Value) (τ : ex_S) => r0 = none ∧ frm σ τ (r + 1) (r + 12) ∧ (fun τ : ex_S => isS τ (r + 1) (LnF 9 nn S)) τ)) = Q
  refine Ret.start pm_122 rfl ?_
  have fr : frm σ σ (r + 1) (r + 1 + 11) := frm.rf
  refine Ev.aload_n rfl rfl ?_
  refine Ev.getf rfl rfl h_rd rfl ?_
  refine Ev.iconst (v := 0) rfl (by decide) ?_
  refine Ev.ialdN (k := 0) rfl h_nu (rfl : (0 : Int32) = nI 0) ⟨(by omega), by decide⟩ ?_
  rw [show nu 0 = nI (nn 0) from hnu 0 (by decide)]
  refine Ev.istore_n rfl rfl rfl ?_
  refine Ev.aload_n rfl rfl ?_
  refine Ev.getf rfl rfl h_rd rfl ?_
  refine Ev.iconst (v := 1) rfl (by decide) ?_
  refine Ev.ialdN (k := 1) rfl h_nu (rfl : (1 : Int32) = nI 1) ⟨(by omega), by decide⟩ ?_
  refine Ev.istore_n rfl rfl rfl ?_
  refine Ev.aload_n rfl rfl ?_
  refine Ev.getf rfl rfl h_rd rfl ?_
  refine Ev.iconst (v := 2) rfl (by decide) ?_
  refine Ev.ialdN (k := 2) rfl h_nu (rfl : (2 : Int32) = nI 2) ⟨(by omega), by decide⟩ ?_
  refine Ev.istore rfl rfl rfl ?_
  refine Ev.iload_n rfl rfl ?_
  refine Ev.zne (tgt := 40) rfl (by decide) (fun c23 => ?_) (fun c23 => absurd c23 (by decide))
  refine Ev.iload_n rfl rfl ?_
  refine Ev.iconst (v := 1) rfl (by decide) ?_
  refine Ev.jne (tgt := 57) rfl (by decide) (fun c42 => ?_) (fun c42 => absurd c42 (by decide))
  refine Ev.iload_n rfl rfl ?_
  refine Ev.iconst (v := 2) rfl (by decide) ?_
  refine Ev.jne (tgt := 86) rfl (by decide) (fun c59 => ?_) (fun c59 => absurd c59 (by decide))
  refine Ev.iload_n rfl rfl ?_
  refine Ev.iconst (v := 3) rfl (by decide) ?_
  refine Ev.jne (tgt := 103) rfl (by decide) (fun c88 => ?_) (fun c88 => absurd c88 (by decide))
  refine Ev.iload_n rfl rfl ?_
  refine Ev.iconst (v := 4) rfl (by decide) ?_
  refine Ev.jeq (tgt := 113) rfl (by decide) (fun c105 => absurd c105 (by decide)) (fun c105 => ?_)
  refine Ev.iload_n rfl rfl ?_
  refine Ev.iconst (v := 5) rfl (by decide) ?_
  refine Ev.jne (tgt := 160) rfl (by decide) (fun c110 => ?_) (fun c110 => absurd c110 (by decide))
  refine Ev.iload_n rfl rfl ?_
  refine Ev.bipush (v := 6) rfl (by decide) ?_
  refine Ev.jne (tgt := 189) rfl (by decide) (fun c163 => ?_) (fun c163 => absurd c163 (by decide))
  refine Ev.iload_n rfl rfl ?_
  refine Ev.bipush (v := 7) rfl (by decide) ?_
  refine Ev.jne (tgt := 218) rfl (by decide) (fun c192 => ?_) (fun c192 => absurd c192 (by decide))
  refine Ev.iload_n rfl rfl ?_
  refine Ev.bipush (v := 8) rfl (by decide) ?_
  refine Ev.jlt (tgt := 248) rfl (by decide) (fun c221 => absurd c221 (by decide)) (fun c221 => ?_)
  refine Ev.iload_n rfl rfl ?_
  refine Ev.bipush (v := 15) rfl (by decide) ?_
  refine Ev.jge (tgt := 248) rfl (by decide) (fun c227 => absurd (by decide) c227) (fun c227 => ?_)
  refine Ev.aload_n rfl rfl ?_
  refine Ev.getf rfl rfl h_rd rfl ?_
  refine Ev.getf rfl rfl h0 rfl ?_
  refine Ev.iconst (v := 4) rfl (by decide) ?_
  refine Ev.iload_n rfl rfl ?_
  refine Ev.iadd rfl ?_
  refine Ev.bipush (v := 8) rfl (by decide) ?_
  refine Ev.isub rfl ?_
  refine Ev.iload_n rfl rfl ?_
  refine Ev.iastE (k := (4 + 9) - 8) rfl h10 (nq_sub (a := 4 + 9) (b := 8) (nq_add (a := 4) (b := 9) (rfl : (4 : Int32) = nI 4) (rfl : (9 : Int32) = nI 9)) (rfl : (8 : Int32) = nI 8) (by omega)) ⟨(by omega), by decide⟩ (fun τ1 f1 h10 => ?_)
  have h_rd := frm.cell f1 h_rd (by omega)
  have h_nu := frm.cell f1 h_nu (by omega)
  have h0 := frm.cell f1 h0 (by omega)
  have h1 := frm.cell f1 h1 (by omega)
  have h2 := frm.cell f1 h2 (by omega)
  have h3 := frm.cell f1 h3 (by omega)
  have h4 := frm.cell f1 h4 (by omega)
  have h5 := frm.cell f1 h5 (by omega)
  have h6 := frm.cell f1 h6 (by omega)
  have h7 := frm.cell f1 h7 (by omega)
  have h8 := frm.cell f1 h8 (by omega)
  have h9 := frm.cell f1 h9 (by omega)
  have fr := fr.step f1 (by omega) (by omega)
  refine Ev.goto (tgt := 328) rfl (by decide) ?_
  refine Ev.ret rfl rfl (Nat.le_refl _) (Nat.le_refl _) ?_
  rw [← hQ]
  exact ⟨rfl, fr, ⟨h0, h1, h2, h3, h4, h5, h6, h7, h8, h9, h10⟩⟩
theorem tell_10 {fa pl tk0 st0 en0 va0 si : Int32} (h_rd : σ.2 r = some (.inr (.inr (5, [.ref (r + 1), .ref (r + 12), .int fa, .int pl, .ref b, .int (nI n), .int tk0, .int st0, .int en0, .int va0, .ref (r + 20), .int si])))) {nu : Nat → Int32} (h_nu : σ.2 (r + 20) = some (.inl (0, 4, nu))) (hS : isS σ (r + 1) S) (hn16 : S.1 ≤ 16) {nn : Nat → Nat} (hnu : ∀ i, i < 1 → nu i = nI (nn i))  : RetX Γ m_Reader_tell [.ref r, .int 10] σ (r + 1) (r + 12) none (fun τ => isS τ (r + 1) (LnF 10 nn S)) := by
  obtain ⟨h0, h1, h2, h3, h4, h5, h6, h7, h8, h9, h10⟩ := id hS
  unfold RetX
  generalize hQ : ((fun (r0 : Option Value) (τ : ex_S) => r0 = none ∧ frm σ τ (r + 1) (r + 12) ∧ (fun τ : ex_S => isS τ (r + 1) (LnF 10 nn S)) τ)) = Q
  refine Ret.start pm_122 rfl ?_
  have fr : frm σ σ (r + 1) (r + 1 + 11) := frm.rf
  refine Ev.aload_n rfl rfl ?_
  refine Ev.getf rfl rfl h_rd rfl ?_
  refine Ev.iconst (v := 0) rfl (by decide) ?_
  refine Ev.ialdN (k := 0) rfl h_nu (rfl : (0 : Int32) = nI 0) ⟨(by omega), by decide⟩ ?_
  rw [show nu 0 = nI (nn 0) from hnu 0 (by decide)]
  refine Ev.istore_n rfl rfl rfl ?_
  refine Ev.aload_n rfl rfl ?_
  refine Ev.getf rfl rfl h_rd rfl ?_
  refine Ev.iconst (v := 1) rfl (by decide) ?_
  refine Ev.ialdN (k := 1) rfl h_nu (rfl : (1 : Int32) = nI 1) ⟨(by omega), by decide⟩ ?_
  refine Ev.istore_n rfl rfl rfl ?_
  refine Ev.aload_n rfl rfl ?_
  refine Ev.getf rfl rfl h_rd rfl ?_
  refine Ev.iconst (v := 2) rfl (by decide) ?_
  refine Ev.ialdN (k := 2) rfl h_nu (rfl : (2 : Int32) = nI 2) ⟨(by omega), by decide⟩ ?_
  refine Ev.istore rfl rfl rfl ?_
  refine Ev.iload_n rfl rfl ?_
  refine Ev.zne (tgt := 40) rfl (by decide) (fun c23 => ?_) (fun c23 => absurd c23 (by decide))
  refine Ev.iload_n rfl rfl ?_
  refine Ev.iconst (v := 1) rfl (by decide) ?_
  refine Ev.jne (tgt := 57) rfl (by decide) (fun c42 => ?_) (fun c42 => absurd c42 (by decide))
  refine Ev.iload_n rfl rfl ?_
  refine Ev.iconst (v := 2) rfl (by decide) ?_
  refine Ev.jne (tgt := 86) rfl (by decide) (fun c59 => ?_) (fun c59 => absurd c59 (by decide))
  refine Ev.iload_n rfl rfl ?_
  refine Ev.iconst (v := 3) rfl (by decide) ?_
  refine Ev.jne (tgt := 103) rfl (by decide) (fun c88 => ?_) (fun c88 => absurd c88 (by decide))
  refine Ev.iload_n rfl rfl ?_
  refine Ev.iconst (v := 4) rfl (by decide) ?_
  refine Ev.jeq (tgt := 113) rfl (by decide) (fun c105 => absurd c105 (by decide)) (fun c105 => ?_)
  refine Ev.iload_n rfl rfl ?_
  refine Ev.iconst (v := 5) rfl (by decide) ?_
  refine Ev.jne (tgt := 160) rfl (by decide) (fun c110 => ?_) (fun c110 => absurd c110 (by decide))
  refine Ev.iload_n rfl rfl ?_
  refine Ev.bipush (v := 6) rfl (by decide) ?_
  refine Ev.jne (tgt := 189) rfl (by decide) (fun c163 => ?_) (fun c163 => absurd c163 (by decide))
  refine Ev.iload_n rfl rfl ?_
  refine Ev.bipush (v := 7) rfl (by decide) ?_
  refine Ev.jne (tgt := 218) rfl (by decide) (fun c192 => ?_) (fun c192 => absurd c192 (by decide))
  refine Ev.iload_n rfl rfl ?_
  refine Ev.bipush (v := 8) rfl (by decide) ?_
  refine Ev.jlt (tgt := 248) rfl (by decide) (fun c221 => absurd c221 (by decide)) (fun c221 => ?_)
  refine Ev.iload_n rfl rfl ?_
  refine Ev.bipush (v := 15) rfl (by decide) ?_
  refine Ev.jge (tgt := 248) rfl (by decide) (fun c227 => absurd (by decide) c227) (fun c227 => ?_)
  refine Ev.aload_n rfl rfl ?_
  refine Ev.getf rfl rfl h_rd rfl ?_
  refine Ev.getf rfl rfl h0 rfl ?_
  refine Ev.iconst (v := 4) rfl (by decide) ?_
  refine Ev.iload_n rfl rfl ?_
  refine Ev.iadd rfl ?_
  refine Ev.bipush (v := 8) rfl (by decide) ?_
  refine Ev.isub rfl ?_
  refine Ev.iload_n rfl rfl ?_
  refine Ev.iastE (k := (4 + 10) - 8) rfl h10 (nq_sub (a := 4 + 10) (b := 8) (nq_add (a := 4) (b := 10) (rfl : (4 : Int32) = nI 4) (rfl : (10 : Int32) = nI 10)) (rfl : (8 : Int32) = nI 8) (by omega)) ⟨(by omega), by decide⟩ (fun τ1 f1 h10 => ?_)
  have h_rd := frm.cell f1 h_rd (by omega)
  have h_nu := frm.cell f1 h_nu (by omega)
  have h0 := frm.cell f1 h0 (by omega)
  have h1 := frm.cell f1 h1 (by omega)
  have h2 := frm.cell f1 h2 (by omega)
  have h3 := frm.cell f1 h3 (by omega)
  have h4 := frm.cell f1 h4 (by omega)
  have h5 := frm.cell f1 h5 (by omega)
  have h6 := frm.cell f1 h6 (by omega)
  have h7 := frm.cell f1 h7 (by omega)
  have h8 := frm.cell f1 h8 (by omega)
  have h9 := frm.cell f1 h9 (by omega)
  have fr := fr.step f1 (by omega) (by omega)
  refine Ev.goto (tgt := 328) rfl (by decide) ?_
  refine Ev.ret rfl rfl (Nat.le_refl _) (Nat.le_refl _) ?_
  rw [← hQ]
  exact ⟨rfl, fr, ⟨h0, h1, h2, h3, h4, h5, h6, h7, h8, h9, h10⟩⟩
theorem tell_11 {fa pl tk0 st0 en0 va0 si : Int32} (h_rd : σ.2 r = some (.inr (.inr (5, [.ref (r + 1), .ref (r + 12), .int fa, .int pl, .ref b, .int (nI n), .int tk0, .int st0, .int en0, .int va0, .ref (r + 20), .int si])))) {nu : Nat → Int32} (h_nu : σ.2 (r + 20) = some (.inl (0, 4, nu))) (hS : isS σ (r + 1) S) (hn16 : S.1 ≤ 16) {nn : Nat → Nat} (hnu : ∀ i, i < 1 → nu i = nI (nn i))  : RetX Γ m_Reader_tell [.ref r, .int 11] σ (r + 1) (r + 12) none (fun τ => isS τ (r + 1) (LnF 11 nn S)) := by
  obtain ⟨h0, h1, h2, h3, h4, h5, h6, h7, h8, h9, h10⟩ := id hS
  unfold RetX
  generalize hQ : ((fun (r0 : Option Value) (τ : ex_S) => r0 = none ∧ frm σ τ (r + 1) (r + 12) ∧ (fun τ : ex_S => isS τ (r + 1) (LnF 11 nn S)) τ)) = Q
  refine Ret.start pm_122 rfl ?_
  have fr : frm σ σ (r + 1) (r + 1 + 11) := frm.rf
  refine Ev.aload_n rfl rfl ?_
  refine Ev.getf rfl rfl h_rd rfl ?_
  refine Ev.iconst (v := 0) rfl (by decide) ?_
  refine Ev.ialdN (k := 0) rfl h_nu (rfl : (0 : Int32) = nI 0) ⟨(by omega), by decide⟩ ?_
  rw [show nu 0 = nI (nn 0) from hnu 0 (by decide)]
  refine Ev.istore_n rfl rfl rfl ?_
  refine Ev.aload_n rfl rfl ?_
  refine Ev.getf rfl rfl h_rd rfl ?_
  refine Ev.iconst (v := 1) rfl (by decide) ?_
  refine Ev.ialdN (k := 1) rfl h_nu (rfl : (1 : Int32) = nI 1) ⟨(by omega), by decide⟩ ?_
  refine Ev.istore_n rfl rfl rfl ?_
  refine Ev.aload_n rfl rfl ?_
  refine Ev.getf rfl rfl h_rd rfl ?_
  refine Ev.iconst (v := 2) rfl (by decide) ?_
  refine Ev.ialdN (k := 2) rfl h_nu (rfl : (2 : Int32) = nI 2) ⟨(by omega), by decide⟩ ?_
  refine Ev.istore rfl rfl rfl ?_
  refine Ev.iload_n rfl rfl ?_
  refine Ev.zne (tgt := 40) rfl (by decide) (fun c23 => ?_) (fun c23 => absurd c23 (by decide))
  refine Ev.iload_n rfl rfl ?_
  refine Ev.iconst (v := 1) rfl (by decide) ?_
  refine Ev.jne (tgt := 57) rfl (by decide) (fun c42 => ?_) (fun c42 => absurd c42 (by decide))
  refine Ev.iload_n rfl rfl ?_
  refine Ev.iconst (v := 2) rfl (by decide) ?_
  refine Ev.jne (tgt := 86) rfl (by decide) (fun c59 => ?_) (fun c59 => absurd c59 (by decide))
  refine Ev.iload_n rfl rfl ?_
  refine Ev.iconst (v := 3) rfl (by decide) ?_
  refine Ev.jne (tgt := 103) rfl (by decide) (fun c88 => ?_) (fun c88 => absurd c88 (by decide))
  refine Ev.iload_n rfl rfl ?_
  refine Ev.iconst (v := 4) rfl (by decide) ?_
  refine Ev.jeq (tgt := 113) rfl (by decide) (fun c105 => absurd c105 (by decide)) (fun c105 => ?_)
  refine Ev.iload_n rfl rfl ?_
  refine Ev.iconst (v := 5) rfl (by decide) ?_
  refine Ev.jne (tgt := 160) rfl (by decide) (fun c110 => ?_) (fun c110 => absurd c110 (by decide))
  refine Ev.iload_n rfl rfl ?_
  refine Ev.bipush (v := 6) rfl (by decide) ?_
  refine Ev.jne (tgt := 189) rfl (by decide) (fun c163 => ?_) (fun c163 => absurd c163 (by decide))
  refine Ev.iload_n rfl rfl ?_
  refine Ev.bipush (v := 7) rfl (by decide) ?_
  refine Ev.jne (tgt := 218) rfl (by decide) (fun c192 => ?_) (fun c192 => absurd c192 (by decide))
  refine Ev.iload_n rfl rfl ?_
  refine Ev.bipush (v := 8) rfl (by decide) ?_
  refine Ev.jlt (tgt := 248) rfl (by decide) (fun c221 => absurd c221 (by decide)) (fun c221 => ?_)
  refine Ev.iload_n rfl rfl ?_
  refine Ev.bipush (v := 15) rfl (by decide) ?_
  refine Ev.jge (tgt := 248) rfl (by decide) (fun c227 => absurd (by decide) c227) (fun c227 => ?_)
  refine Ev.aload_n rfl rfl ?_
  refine Ev.getf rfl rfl h_rd rfl ?_
  refine Ev.getf rfl rfl h0 rfl ?_
  refine Ev.iconst (v := 4) rfl (by decide) ?_
  refine Ev.iload_n rfl rfl ?_
  refine Ev.iadd rfl ?_
  refine Ev.bipush (v := 8) rfl (by decide) ?_
  refine Ev.isub rfl ?_
  refine Ev.iload_n rfl rfl ?_
  refine Ev.iastE (k := (4 + 11) - 8) rfl h10 (nq_sub (a := 4 + 11) (b := 8) (nq_add (a := 4) (b := 11) (rfl : (4 : Int32) = nI 4) (rfl : (11 : Int32) = nI 11)) (rfl : (8 : Int32) = nI 8) (by omega)) ⟨(by omega), by decide⟩ (fun τ1 f1 h10 => ?_)
  have h_rd := frm.cell f1 h_rd (by omega)
  have h_nu := frm.cell f1 h_nu (by omega)
  have h0 := frm.cell f1 h0 (by omega)
  have h1 := frm.cell f1 h1 (by omega)
  have h2 := frm.cell f1 h2 (by omega)
  have h3 := frm.cell f1 h3 (by omega)
  have h4 := frm.cell f1 h4 (by omega)
  have h5 := frm.cell f1 h5 (by omega)
  have h6 := frm.cell f1 h6 (by omega)
  have h7 := frm.cell f1 h7 (by omega)
  have h8 := frm.cell f1 h8 (by omega)
  have h9 := frm.cell f1 h9 (by omega)
  have fr := fr.step f1 (by omega) (by omega)
  refine Ev.goto (tgt := 328) rfl (by decide) ?_
  refine Ev.ret rfl rfl (Nat.le_refl _) (Nat.le_refl _) ?_
  rw [← hQ]
  exact ⟨rfl, fr, ⟨h0, h1, h2, h3, h4, h5, h6, h7, h8, h9, h10⟩⟩
theorem tell_12 {fa pl tk0 st0 en0 va0 si : Int32} (h_rd : σ.2 r = some (.inr (.inr (5, [.ref (r + 1), .ref (r + 12), .int fa, .int pl, .ref b, .int (nI n), .int tk0, .int st0, .int en0, .int va0, .ref (r + 20), .int si])))) {nu : Nat → Int32} (h_nu : σ.2 (r + 20) = some (.inl (0, 4, nu))) (hS : isS σ (r + 1) S) (hn16 : S.1 ≤ 16) {nn : Nat → Nat} (hnu : ∀ i, i < 1 → nu i = nI (nn i))  : RetX Γ m_Reader_tell [.ref r, .int 12] σ (r + 1) (r + 12) none (fun τ => isS τ (r + 1) (LnF 12 nn S)) := by
  obtain ⟨h0, h1, h2, h3, h4, h5, h6, h7, h8, h9, h10⟩ := id hS
  unfold RetX
  generalize hQ : ((fun (r0 : Option Value) (τ : ex_S) => r0 = none ∧ frm σ τ (r + 1) (r + 12) ∧ (fun τ : ex_S => isS τ (r + 1) (LnF 12 nn S)) τ)) = Q
  refine Ret.start pm_122 rfl ?_
  have fr : frm σ σ (r + 1) (r + 1 + 11) := frm.rf
  refine Ev.aload_n rfl rfl ?_
  refine Ev.getf rfl rfl h_rd rfl ?_
  refine Ev.iconst (v := 0) rfl (by decide) ?_
  refine Ev.ialdN (k := 0) rfl h_nu (rfl : (0 : Int32) = nI 0) ⟨(by omega), by decide⟩ ?_
  rw [show nu 0 = nI (nn 0) from hnu 0 (by decide)]
  refine Ev.istore_n rfl rfl rfl ?_
  refine Ev.aload_n rfl rfl ?_
  refine Ev.getf rfl rfl h_rd rfl ?_
  refine Ev.iconst (v := 1) rfl (by decide) ?_
  refine Ev.ialdN (k := 1) rfl h_nu (rfl : (1 : Int32) = nI 1) ⟨(by omega), by decide⟩ ?_
  refine Ev.istore_n rfl rfl rfl ?_
  refine Ev.aload_n rfl rfl ?_
  refine Ev.getf rfl rfl h_rd rfl ?_
  refine Ev.iconst (v := 2) rfl (by decide) ?_
  refine Ev.ialdN (k := 2) rfl h_nu (rfl : (2 : Int32) = nI 2) ⟨(by omega), by decide⟩ ?_
  refine Ev.istore rfl rfl rfl ?_
  refine Ev.iload_n rfl rfl ?_
  refine Ev.zne (tgt := 40) rfl (by decide) (fun c23 => ?_) (fun c23 => absurd c23 (by decide))
  refine Ev.iload_n rfl rfl ?_
  refine Ev.iconst (v := 1) rfl (by decide) ?_
  refine Ev.jne (tgt := 57) rfl (by decide) (fun c42 => ?_) (fun c42 => absurd c42 (by decide))
  refine Ev.iload_n rfl rfl ?_
  refine Ev.iconst (v := 2) rfl (by decide) ?_
  refine Ev.jne (tgt := 86) rfl (by decide) (fun c59 => ?_) (fun c59 => absurd c59 (by decide))
  refine Ev.iload_n rfl rfl ?_
  refine Ev.iconst (v := 3) rfl (by decide) ?_
  refine Ev.jne (tgt := 103) rfl (by decide) (fun c88 => ?_) (fun c88 => absurd c88 (by decide))
  refine Ev.iload_n rfl rfl ?_
  refine Ev.iconst (v := 4) rfl (by decide) ?_
  refine Ev.jeq (tgt := 113) rfl (by decide) (fun c105 => absurd c105 (by decide)) (fun c105 => ?_)
  refine Ev.iload_n rfl rfl ?_
  refine Ev.iconst (v := 5) rfl (by decide) ?_
  refine Ev.jne (tgt := 160) rfl (by decide) (fun c110 => ?_) (fun c110 => absurd c110 (by decide))
  refine Ev.iload_n rfl rfl ?_
  refine Ev.bipush (v := 6) rfl (by decide) ?_
  refine Ev.jne (tgt := 189) rfl (by decide) (fun c163 => ?_) (fun c163 => absurd c163 (by decide))
  refine Ev.iload_n rfl rfl ?_
  refine Ev.bipush (v := 7) rfl (by decide) ?_
  refine Ev.jne (tgt := 218) rfl (by decide) (fun c192 => ?_) (fun c192 => absurd c192 (by decide))
  refine Ev.iload_n rfl rfl ?_
  refine Ev.bipush (v := 8) rfl (by decide) ?_
  refine Ev.jlt (tgt := 248) rfl (by decide) (fun c221 => absurd c221 (by decide)) (fun c221 => ?_)
  refine Ev.iload_n rfl rfl ?_
  refine Ev.bipush (v := 15) rfl (by decide) ?_
  refine Ev.jge (tgt := 248) rfl (by decide) (fun c227 => absurd (by decide) c227) (fun c227 => ?_)
  refine Ev.aload_n rfl rfl ?_
  refine Ev.getf rfl rfl h_rd rfl ?_
  refine Ev.getf rfl rfl h0 rfl ?_
  refine Ev.iconst (v := 4) rfl (by decide) ?_
  refine Ev.iload_n rfl rfl ?_
  refine Ev.iadd rfl ?_
  refine Ev.bipush (v := 8) rfl (by decide) ?_
  refine Ev.isub rfl ?_
  refine Ev.iload_n rfl rfl ?_
  refine Ev.iastE (k := (4 + 12) - 8) rfl h10 (nq_sub (a := 4 + 12) (b := 8) (nq_add (a := 4) (b := 12) (rfl : (4 : Int32) = nI 4) (rfl : (12 : Int32) = nI 12)) (rfl : (8 : Int32) = nI 8) (by omega)) ⟨(by omega), by decide⟩ (fun τ1 f1 h10 => ?_)
  have h_rd := frm.cell f1 h_rd (by omega)
  have h_nu := frm.cell f1 h_nu (by omega)
  have h0 := frm.cell f1 h0 (by omega)
  have h1 := frm.cell f1 h1 (by omega)
  have h2 := frm.cell f1 h2 (by omega)
  have h3 := frm.cell f1 h3 (by omega)
  have h4 := frm.cell f1 h4 (by omega)
  have h5 := frm.cell f1 h5 (by omega)
  have h6 := frm.cell f1 h6 (by omega)
  have h7 := frm.cell f1 h7 (by omega)
  have h8 := frm.cell f1 h8 (by omega)
  have h9 := frm.cell f1 h9 (by omega)
  have fr := fr.step f1 (by omega) (by omega)
  refine Ev.goto (tgt := 328) rfl (by decide) ?_
  refine Ev.ret rfl rfl (Nat.le_refl _) (Nat.le_refl _) ?_
  rw [← hQ]
  exact ⟨rfl, fr, ⟨h0, h1, h2, h3, h4, h5, h6, h7, h8, h9, h10⟩⟩
theorem tell_13 {fa pl tk0 st0 en0 va0 si : Int32} (h_rd : σ.2 r = some (.inr (.inr (5, [.ref (r + 1), .ref (r + 12), .int fa, .int pl, .ref b, .int (nI n), .int tk0, .int st0, .int en0, .int va0, .ref (r + 20), .int si])))) {nu : Nat → Int32} (h_nu : σ.2 (r + 20) = some (.inl (0, 4, nu))) (hS : isS σ (r + 1) S) (hn16 : S.1 ≤ 16) {nn : Nat → Nat} (hnu : ∀ i, i < 1 → nu i = nI (nn i))  : RetX Γ m_Reader_tell [.ref r, .int 13] σ (r + 1) (r + 12) none (fun τ => isS τ (r + 1) (LnF 13 nn S)) := by
  obtain ⟨h0, h1, h2, h3, h4, h5, h6, h7, h8, h9, h10⟩ := id hS
  unfold RetX
  generalize hQ : ((fun (r0 : Option Value) (τ : ex_S) => r0 = none ∧ frm σ τ (r + 1) (r + 12) ∧ (fun τ : ex_S => isS τ (r + 1) (LnF 13 nn S)) τ)) = Q
  refine Ret.start pm_122 rfl ?_
  have fr : frm σ σ (r + 1) (r + 1 + 11) := frm.rf
  refine Ev.aload_n rfl rfl ?_
  refine Ev.getf rfl rfl h_rd rfl ?_
  refine Ev.iconst (v := 0) rfl (by decide) ?_
  refine Ev.ialdN (k := 0) rfl h_nu (rfl : (0 : Int32) = nI 0) ⟨(by omega), by decide⟩ ?_
  rw [show nu 0 = nI (nn 0) from hnu 0 (by decide)]
  refine Ev.istore_n rfl rfl rfl ?_
  refine Ev.aload_n rfl rfl ?_
  refine Ev.getf rfl rfl h_rd rfl ?_
  refine Ev.iconst (v := 1) rfl (by decide) ?_
  refine Ev.ialdN (k := 1) rfl h_nu (rfl : (1 : Int32) = nI 1) ⟨(by omega), by decide⟩ ?_
  refine Ev.istore_n rfl rfl rfl ?_
  refine Ev.aload_n rfl rfl ?_
  refine Ev.getf rfl rfl h_rd rfl ?_
  refine Ev.iconst (v := 2) rfl (by decide) ?_
  refine Ev.ialdN (k := 2) rfl h_nu (rfl : (2 : Int32) = nI 2) ⟨(by omega), by decide⟩ ?_
  refine Ev.istore rfl rfl rfl ?_
  refine Ev.iload_n rfl rfl ?_
  refine Ev.zne (tgt := 40) rfl (by decide) (fun c23 => ?_) (fun c23 => absurd c23 (by decide))
  refine Ev.iload_n rfl rfl ?_
  refine Ev.iconst (v := 1) rfl (by decide) ?_
  refine Ev.jne (tgt := 57) rfl (by decide) (fun c42 => ?_) (fun c42 => absurd c42 (by decide))
  refine Ev.iload_n rfl rfl ?_
  refine Ev.iconst (v := 2) rfl (by decide) ?_
  refine Ev.jne (tgt := 86) rfl (by decide) (fun c59 => ?_) (fun c59 => absurd c59 (by decide))
  refine Ev.iload_n rfl rfl ?_
  refine Ev.iconst (v := 3) rfl (by decide) ?_
  refine Ev.jne (tgt := 103) rfl (by decide) (fun c88 => ?_) (fun c88 => absurd c88 (by decide))
  refine Ev.iload_n rfl rfl ?_
  refine Ev.iconst (v := 4) rfl (by decide) ?_
  refine Ev.jeq (tgt := 113) rfl (by decide) (fun c105 => absurd c105 (by decide)) (fun c105 => ?_)
  refine Ev.iload_n rfl rfl ?_
  refine Ev.iconst (v := 5) rfl (by decide) ?_
  refine Ev.jne (tgt := 160) rfl (by decide) (fun c110 => ?_) (fun c110 => absurd c110 (by decide))
  refine Ev.iload_n rfl rfl ?_
  refine Ev.bipush (v := 6) rfl (by decide) ?_
  refine Ev.jne (tgt := 189) rfl (by decide) (fun c163 => ?_) (fun c163 => absurd c163 (by decide))
  refine Ev.iload_n rfl rfl ?_
  refine Ev.bipush (v := 7) rfl (by decide) ?_
  refine Ev.jne (tgt := 218) rfl (by decide) (fun c192 => ?_) (fun c192 => absurd c192 (by decide))
  refine Ev.iload_n rfl rfl ?_
  refine Ev.bipush (v := 8) rfl (by decide) ?_
  refine Ev.jlt (tgt := 248) rfl (by decide) (fun c221 => absurd c221 (by decide)) (fun c221 => ?_)
  refine Ev.iload_n rfl rfl ?_
  refine Ev.bipush (v := 15) rfl (by decide) ?_
  refine Ev.jge (tgt := 248) rfl (by decide) (fun c227 => absurd (by decide) c227) (fun c227 => ?_)
  refine Ev.aload_n rfl rfl ?_
  refine Ev.getf rfl rfl h_rd rfl ?_
  refine Ev.getf rfl rfl h0 rfl ?_
  refine Ev.iconst (v := 4) rfl (by decide) ?_
  refine Ev.iload_n rfl rfl ?_
  refine Ev.iadd rfl ?_
  refine Ev.bipush (v := 8) rfl (by decide) ?_
  refine Ev.isub rfl ?_
  refine Ev.iload_n rfl rfl ?_
  refine Ev.iastE (k := (4 + 13) - 8) rfl h10 (nq_sub (a := 4 + 13) (b := 8) (nq_add (a := 4) (b := 13) (rfl : (4 : Int32) = nI 4) (rfl : (13 : Int32) = nI 13)) (rfl : (8 : Int32) = nI 8) (by omega)) ⟨(by omega), by decide⟩ (fun τ1 f1 h10 => ?_)
  have h_rd := frm.cell f1 h_rd (by omega)
  have h_nu := frm.cell f1 h_nu (by omega)
  have h0 := frm.cell f1 h0 (by omega)
  have h1 := frm.cell f1 h1 (by omega)
  have h2 := frm.cell f1 h2 (by omega)
  have h3 := frm.cell f1 h3 (by omega)
  have h4 := frm.cell f1 h4 (by omega)
  have h5 := frm.cell f1 h5 (by omega)
  have h6 := frm.cell f1 h6 (by omega)
  have h7 := frm.cell f1 h7 (by omega)
  have h8 := frm.cell f1 h8 (by omega)
  have h9 := frm.cell f1 h9 (by omega)
  have fr := fr.step f1 (by omega) (by omega)
  refine Ev.goto (tgt := 328) rfl (by decide) ?_
  refine Ev.ret rfl rfl (Nat.le_refl _) (Nat.le_refl _) ?_
  rw [← hQ]
  exact ⟨rfl, fr, ⟨h0, h1, h2, h3, h4, h5, h6, h7, h8, h9, h10⟩⟩
theorem tell_14 {fa pl tk0 st0 en0 va0 si : Int32} (h_rd : σ.2 r = some (.inr (.inr (5, [.ref (r + 1), .ref (r + 12), .int fa, .int pl, .ref b, .int (nI n), .int tk0, .int st0, .int en0, .int va0, .ref (r + 20), .int si])))) {nu : Nat → Int32} (h_nu : σ.2 (r + 20) = some (.inl (0, 4, nu))) (hS : isS σ (r + 1) S) (hn16 : S.1 ≤ 16) {nn : Nat → Nat} (hnu : ∀ i, i < 1 → nu i = nI (nn i))  : RetX Γ m_Reader_tell [.ref r, .int 14] σ (r + 1) (r + 12) none (fun τ => isS τ (r + 1) (LnF 14 nn S)) := by
  obtain ⟨h0, h1, h2, h3, h4, h5, h6, h7, h8, h9, h10⟩ := id hS
  unfold RetX
  generalize hQ : ((fun (r0 : Option Value) (τ : ex_S) => r0 = none ∧ frm σ τ (r + 1) (r + 12) ∧ (fun τ : ex_S => isS τ (r + 1) (LnF 14 nn S)) τ)) = Q
  refine Ret.start pm_122 rfl ?_
  have fr : frm σ σ (r + 1) (r + 1 + 11) := frm.rf
  refine Ev.aload_n rfl rfl ?_
  refine Ev.getf rfl rfl h_rd rfl ?_
  refine Ev.iconst (v := 0) rfl (by decide) ?_
  refine Ev.ialdN (k := 0) rfl h_nu (rfl : (0 : Int32) = nI 0) ⟨(by omega), by decide⟩ ?_
  rw [show nu 0 = nI (nn 0) from hnu 0 (by decide)]
  refine Ev.istore_n rfl rfl rfl ?_
  refine Ev.aload_n rfl rfl ?_
  refine Ev.getf rfl rfl h_rd rfl ?_
  refine Ev.iconst (v := 1) rfl (by decide) ?_
  refine Ev.ialdN (k := 1) rfl h_nu (rfl : (1 : Int32) = nI 1) ⟨(by omega), by decide⟩ ?_
  refine Ev.istore_n rfl rfl rfl ?_
  refine Ev.aload_n rfl rfl ?_
  refine Ev.getf rfl rfl h_rd rfl ?_
  refine Ev.iconst (v := 2) rfl (by decide) ?_
  refine Ev.ialdN (k := 2) rfl h_nu (rfl : (2 : Int32) = nI 2) ⟨(by omega), by decide⟩ ?_
  refine Ev.istore rfl rfl rfl ?_
  refine Ev.iload_n rfl rfl ?_
  refine Ev.zne (tgt := 40) rfl (by decide) (fun c23 => ?_) (fun c23 => absurd c23 (by decide))
  refine Ev.iload_n rfl rfl ?_
  refine Ev.iconst (v := 1) rfl (by decide) ?_
  refine Ev.jne (tgt := 57) rfl (by decide) (fun c42 => ?_) (fun c42 => absurd c42 (by decide))
  refine Ev.iload_n rfl rfl ?_
  refine Ev.iconst (v := 2) rfl (by decide) ?_
  refine Ev.jne (tgt := 86) rfl (by decide) (fun c59 => ?_) (fun c59 => absurd c59 (by decide))
  refine Ev.iload_n rfl rfl ?_
  refine Ev.iconst (v := 3) rfl (by decide) ?_
  refine Ev.jne (tgt := 103) rfl (by decide) (fun c88 => ?_) (fun c88 => absurd c88 (by decide))
  refine Ev.iload_n rfl rfl ?_
  refine Ev.iconst (v := 4) rfl (by decide) ?_
  refine Ev.jeq (tgt := 113) rfl (by decide) (fun c105 => absurd c105 (by decide)) (fun c105 => ?_)
  refine Ev.iload_n rfl rfl ?_
  refine Ev.iconst (v := 5) rfl (by decide) ?_
  refine Ev.jne (tgt := 160) rfl (by decide) (fun c110 => ?_) (fun c110 => absurd c110 (by decide))
  refine Ev.iload_n rfl rfl ?_
  refine Ev.bipush (v := 6) rfl (by decide) ?_
  refine Ev.jne (tgt := 189) rfl (by decide) (fun c163 => ?_) (fun c163 => absurd c163 (by decide))
  refine Ev.iload_n rfl rfl ?_
  refine Ev.bipush (v := 7) rfl (by decide) ?_
  refine Ev.jne (tgt := 218) rfl (by decide) (fun c192 => ?_) (fun c192 => absurd c192 (by decide))
  refine Ev.iload_n rfl rfl ?_
  refine Ev.bipush (v := 8) rfl (by decide) ?_
  refine Ev.jlt (tgt := 248) rfl (by decide) (fun c221 => absurd c221 (by decide)) (fun c221 => ?_)
  refine Ev.iload_n rfl rfl ?_
  refine Ev.bipush (v := 15) rfl (by decide) ?_
  refine Ev.jge (tgt := 248) rfl (by decide) (fun c227 => absurd (by decide) c227) (fun c227 => ?_)
  refine Ev.aload_n rfl rfl ?_
  refine Ev.getf rfl rfl h_rd rfl ?_
  refine Ev.getf rfl rfl h0 rfl ?_
  refine Ev.iconst (v := 4) rfl (by decide) ?_
  refine Ev.iload_n rfl rfl ?_
  refine Ev.iadd rfl ?_
  refine Ev.bipush (v := 8) rfl (by decide) ?_
  refine Ev.isub rfl ?_
  refine Ev.iload_n rfl rfl ?_
  refine Ev.iastE (k := (4 + 14) - 8) rfl h10 (nq_sub (a := 4 + 14) (b := 8) (nq_add (a := 4) (b := 14) (rfl : (4 : Int32) = nI 4) (rfl : (14 : Int32) = nI 14)) (rfl : (8 : Int32) = nI 8) (by omega)) ⟨(by omega), by decide⟩ (fun τ1 f1 h10 => ?_)
  have h_rd := frm.cell f1 h_rd (by omega)
  have h_nu := frm.cell f1 h_nu (by omega)
  have h0 := frm.cell f1 h0 (by omega)
  have h1 := frm.cell f1 h1 (by omega)
  have h2 := frm.cell f1 h2 (by omega)
  have h3 := frm.cell f1 h3 (by omega)
  have h4 := frm.cell f1 h4 (by omega)
  have h5 := frm.cell f1 h5 (by omega)
  have h6 := frm.cell f1 h6 (by omega)
  have h7 := frm.cell f1 h7 (by omega)
  have h8 := frm.cell f1 h8 (by omega)
  have h9 := frm.cell f1 h9 (by omega)
  have fr := fr.step f1 (by omega) (by omega)
  refine Ev.goto (tgt := 328) rfl (by decide) ?_
  refine Ev.ret rfl rfl (Nat.le_refl _) (Nat.le_refl _) ?_
  rw [← hQ]
  exact ⟨rfl, fr, ⟨h0, h1, h2, h3, h4, h5, h6, h7, h8, h9, h10⟩⟩
theorem tell_s {fa pl tk0 st0 en0 va0 si : Int32} (h_rd : σ.2 r = some (.inr (.inr (5, [.ref (r + 1), .ref (r + 12), .int fa, .int pl, .ref b, .int (nI n), .int tk0, .int st0, .int en0, .int va0, .ref (r + 20), .int si])))) {nu : Nat → Int32} (h_nu : σ.2 (r + 20) = some (.inl (0, 4, nu))) (hS : isS σ (r + 1) S) (hn16 : S.1 ≤ 16) {nn : Nat → Nat} {k : Nat} (hk : k < 15) (hnu : ∀ i, i < NUl.getD k 0 → nu i = nI (nn i)) (h0 : k = 0 → S.1 < 16) (h1 : k = 1 → nn 0 < S.1 ∧ nn 1 < S.1) (h2 : k = 2 → nn 0 < S.1) (h3 : k = 3 → S.2.1 < 5) (h4 : k = 4 ∨ k = 5 → nn 0 ≤ 3) : RetX Γ m_Reader_tell [.ref r, .int (nI k)] σ (r + 1) (r + 12) none (fun τ => isS τ (r + 1) (LnF k nn S)) := by
  match k, hk with
  | 0, _ => exact tell_0 h_rd h_nu hS hn16 hnu (h0 rfl)
  | 1, _ => exact tell_1 h_rd h_nu hS hn16 hnu (h1 rfl).1 (h1 rfl).2
  | 2, _ => exact tell_2 h_rd h_nu hS hn16 hnu (h2 rfl)
  | 3, _ => exact tell_3 h_rd h_nu hS hn16 hnu (h3 rfl)
  | 4, _ => exact tell_4 h_rd h_nu hS hn16 hnu (h4 (Or.inl rfl))
  | 5, _ => exact tell_5 h_rd h_nu hS hn16 hnu (h4 (Or.inr rfl))
  | 6, _ => exact tell_6 h_rd h_nu hS hn16 hnu
  | 7, _ => exact tell_7 h_rd h_nu hS hn16 hnu
  | 8, _ => exact tell_8 h_rd h_nu hS hn16 hnu
  | 9, _ => exact tell_9 h_rd h_nu hS hn16 hnu
  | 10, _ => exact tell_10 h_rd h_nu hS hn16 hnu
  | 11, _ => exact tell_11 h_rd h_nu hS hn16 hnu
  | 12, _ => exact tell_12 h_rd h_nu hS hn16 hnu
  | 13, _ => exact tell_13 h_rd h_nu hS hn16 hnu
  | 14, _ => exact tell_14 h_rd h_nu hS hn16 hnu
end
end
