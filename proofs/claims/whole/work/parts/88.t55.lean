/-! Texts (class): what a line of a plan tells. -/
noncomputable section
section
variable {Γ : ex_G} {σ : ex_S} {x q a p y : Nat} {S : Sch} {T : Tol} {P : Pln} {g A : Nat → Int32}
variable {P : Pln} {n r b : Nat}
theorem tellC_0 {fa pl tk0 st0 en0 va0 si : Int32} (h_rd : σ.2 r = some (.inr (.inr (5, [.ref (r + 1), .ref (r + 12), .int fa, .int pl, .ref b, .int (nI n), .int tk0, .int st0, .int en0, .int va0, .ref (r + 20), .int si])))) {nu : Nat → Int32} (h_nu : σ.2 (r + 20) = some (.inl (0, 4, nu))) (hP : isP σ (r + 12) P) (h6 : P.1 < 6) {nn : Nat → Nat} (hnu : ∀ i, i < 3 → nu i = nI (nn i)) : RetX Γ m_Reader_tellClass [.ref r, .int 0] σ (r + 12) (r + 20) none (fun τ => isP τ (r + 12) (LnP 15 nn P)) := by
  obtain ⟨p0, ⟨fp, p1, p2⟩, p3⟩ := id hP
  have hle : σ.2 (r + 12 + 2 + P.1) = some (.inr (.inr (4, [(.int (P.2 P.1 0)), (.int (P.2 P.1 1)), (.int (P.2 P.1 2)), (.int (P.2 P.1 3)), (.int (P.2 P.1 4)), (.int (P.2 P.1 5))]))) := p3 P.1 h6
  have ot : ∀ k, k < 6 → k ≠ P.1 → isL σ (r + 12 + 2 + k) (P.2 k) := fun k hk _ => p3 k hk
  unfold RetX
  generalize hQ : ((fun (r0 : Option Value) (τ : ex_S) => r0 = none ∧ frm σ τ (r + 12) (r + 20) ∧ (fun τ : ex_S => isP τ (r + 12) (LnP 15 nn P)) τ)) = Q
  refine Ret.start pm_123 rfl ?_
  have fr : frm σ σ (r + 12) (r + 20) := frm.rf
  refine Ev.aload_n rfl rfl ?_
  refine Ev.getf rfl rfl h_rd rfl ?_
  refine Ev.getf rfl rfl p0 rfl ?_
  refine Ev.aload_n rfl rfl ?_
  refine Ev.getf rfl rfl h_rd rfl ?_
  refine Ev.getf rfl rfl p0 rfl ?_
  refine Ev.aaldN (k := P.1) rfl p1 rfl rfl ⟨(by omega), by decide⟩ (p2 P.1 (by omega)) ?_
  refine Ev.astore_n rfl rfl rfl ?_
  refine Ev.aload_n rfl rfl ?_
  refine Ev.iload_n rfl rfl ?_
  refine Ev.putE rfl rfl hle rfl rfl rfl (Nat.le_of_ble_eq_true rfl) (fun τ1 f1 hle => ?_)
  replace hle : τ1.2 (r + 12 + 2 + P.1) = some (.inr (.inr (4, [(.int (0 : Int32)), (.int (P.2 P.1 1)), (.int (P.2 P.1 2)), (.int (P.2 P.1 3)), (.int (P.2 P.1 4)), (.int (P.2 P.1 5))]))) := hle
  have h_rd := frm.cell f1 h_rd (by omega)
  have h_nu := frm.cell f1 h_nu (by omega)
  have p0 := frm.cell f1 p0 (by omega)
  have p1 := frm.cell f1 p1 (by omega)
  have ot := fun k k1 k2 => (ot k k1 k2).frm f1 (by omega)
  have fr := fr.step f1 (by omega) (by omega)
  refine Ev.aload_n rfl rfl ?_
  refine Ev.aload_n rfl rfl ?_
  refine Ev.getf rfl rfl h_rd rfl ?_
  refine Ev.iconst (v := 0) rfl (by decide) ?_
  refine Ev.ialdN (k := 0) rfl h_nu (rfl : (0 : Int32) = nI 0) ⟨(by omega), by decide⟩ ?_
  rw [show nu 0 = nI (nn 0) from hnu 0 (by decide)]
  refine Ev.putE rfl rfl hle rfl rfl rfl (Nat.le_of_ble_eq_true rfl) (fun τ2 f1 hle => ?_)
  replace hle : τ2.2 (r + 12 + 2 + P.1) = some (.inr (.inr (4, [(.int (0 : Int32)), (.int (nI (nn 0))), (.int (P.2 P.1 2)), (.int (P.2 P.1 3)), (.int (P.2 P.1 4)), (.int (P.2 P.1 5))]))) := hle
  have h_rd := frm.cell f1 h_rd (by omega)
  have h_nu := frm.cell f1 h_nu (by omega)
  have p0 := frm.cell f1 p0 (by omega)
  have p1 := frm.cell f1 p1 (by omega)
  have ot := fun k k1 k2 => (ot k k1 k2).frm f1 (by omega)
  have fr := fr.step f1 (by omega) (by omega)
  refine Ev.aload_n rfl rfl ?_
  refine Ev.aload_n rfl rfl ?_
  refine Ev.getf rfl rfl h_rd rfl ?_
  refine Ev.iconst (v := 1) rfl (by decide) ?_
  refine Ev.ialdN (k := 1) rfl h_nu (rfl : (1 : Int32) = nI 1) ⟨(by omega), by decide⟩ ?_
  rw [show nu 1 = nI (nn 1) from hnu 1 (by decide)]
  refine Ev.putE rfl rfl hle rfl rfl rfl (Nat.le_of_ble_eq_true rfl) (fun τ3 f1 hle => ?_)
  replace hle : τ3.2 (r + 12 + 2 + P.1) = some (.inr (.inr (4, [(.int (0 : Int32)), (.int (nI (nn 0))), (.int (nI (nn 1))), (.int (P.2 P.1 3)), (.int (P.2 P.1 4)), (.int (P.2 P.1 5))]))) := hle
  have h_rd := frm.cell f1 h_rd (by omega)
  have h_nu := frm.cell f1 h_nu (by omega)
  have p0 := frm.cell f1 p0 (by omega)
  have p1 := frm.cell f1 p1 (by omega)
  have ot := fun k k1 k2 => (ot k k1 k2).frm f1 (by omega)
  have fr := fr.step f1 (by omega) (by omega)
  refine Ev.aload_n rfl rfl ?_
  refine Ev.aload_n rfl rfl ?_
  refine Ev.getf rfl rfl h_rd rfl ?_
  refine Ev.iconst (v := 2) rfl (by decide) ?_
  refine Ev.ialdN (k := 2) rfl h_nu (rfl : (2 : Int32) = nI 2) ⟨(by omega), by decide⟩ ?_
  rw [show nu 2 = nI (nn 2) from hnu 2 (by decide)]
  refine Ev.putE rfl rfl hle rfl rfl rfl (Nat.le_of_ble_eq_true rfl) (fun τ4 f1 hle => ?_)
  replace hle : τ4.2 (r + 12 + 2 + P.1) = some (.inr (.inr (4, [(.int (0 : Int32)), (.int (nI (nn 0))), (.int (nI (nn 1))), (.int (nI (nn 2))), (.int (P.2 P.1 4)), (.int (P.2 P.1 5))]))) := hle
  have h_rd := frm.cell f1 h_rd (by omega)
  have h_nu := frm.cell f1 h_nu (by omega)
  have p0 := frm.cell f1 p0 (by omega)
  have p1 := frm.cell f1 p1 (by omega)
  have ot := fun k k1 k2 => (ot k k1 k2).frm f1 (by omega)
  have fr := fr.step f1 (by omega) (by omega)
  refine Ev.aload_n rfl rfl ?_
  refine Ev.iload_n rfl rfl ?_
  refine Ev.iconst (v := 1) rfl (by decide) ?_
  refine Ev.jne (tgt := 66) rfl (by decide) (fun c54 => ?_) (fun c54 => absurd c54 (by decide))
  refine Ev.iconst (v := (-1)) rfl (by decide) ?_
  refine Ev.putE rfl rfl hle rfl rfl rfl (Nat.le_of_ble_eq_true rfl) (fun τ5 f1 hle => ?_)
  replace hle : τ5.2 (r + 12 + 2 + P.1) = some (.inr (.inr (4, [(.int (0 : Int32)), (.int (nI (nn 0))), (.int (nI (nn 1))), (.int (nI (nn 2))), (.int (-1 : Int32)), (.int (P.2 P.1 5))]))) := hle
  have h_rd := frm.cell f1 h_rd (by omega)
  have h_nu := frm.cell f1 h_nu (by omega)
  have p0 := frm.cell f1 p0 (by omega)
  have p1 := frm.cell f1 p1 (by omega)
  have ot := fun k k1 k2 => (ot k k1 k2).frm f1 (by omega)
  have fr := fr.step f1 (by omega) (by omega)
  refine Ev.aload_n rfl rfl ?_
  refine Ev.iconst (v := 0) rfl (by decide) ?_
  refine Ev.putE rfl rfl hle rfl rfl rfl (Nat.le_of_ble_eq_true rfl) (fun τ6 f1 hle => ?_)
  replace hle : τ6.2 (r + 12 + 2 + P.1) = some (.inr (.inr (4, [(.int (0 : Int32)), (.int (nI (nn 0))), (.int (nI (nn 1))), (.int (nI (nn 2))), (.int (-1 : Int32)), (.int (0 : Int32))]))) := hle
  have h_rd := frm.cell f1 h_rd (by omega)
  have h_nu := frm.cell f1 h_nu (by omega)
  have p0 := frm.cell f1 p0 (by omega)
  have p1 := frm.cell f1 p1 (by omega)
  have ot := fun k k1 k2 => (ot k k1 k2).frm f1 (by omega)
  have fr := fr.step f1 (by omega) (by omega)
  refine Ev.aload_n rfl rfl ?_
  refine Ev.getf rfl rfl h_rd rfl ?_
  refine Ev.dup rfl rfl ?_
  refine Ev.getf rfl rfl p0 rfl ?_
  refine Ev.iconst (v := 1) rfl (by decide) ?_
  refine Ev.iadd rfl ?_
  rw [show (nI P.1) + (1 : Int32) = nI (P.1 + 1) from (nq_add (a := P.1) (b := 1) rfl (rfl : (1 : Int32) = nI 1))]
  refine Ev.putE rfl rfl p0 rfl rfl rfl (Nat.le_of_ble_eq_true rfl) (fun τ7 f1 p0 => ?_)
  replace p0 : τ7.2 (r + 12) = some (.inr (.inr (3, [(.int (nI (P.1 + 1))), (.ref (r + 12 + 1))]))) := p0
  have h_rd := frm.cell f1 h_rd (by omega)
  have h_nu := frm.cell f1 h_nu (by omega)
  have p1 := frm.cell f1 p1 (by omega)
  have hle := frm.cell f1 hle (by omega)
  have ot := fun k k1 k2 => (ot k k1 k2).frm f1 (by omega)
  have fr := fr.step f1 (by omega) (by omega)
  refine Ev.ret rfl rfl (Nat.le_refl _) (Nat.le_refl _) ?_
  rw [← hQ]
  refine ⟨rfl, fr, p0, ⟨fp, p1, p2⟩, fun k hk => ?_⟩
  by_cases e : k = P.1
  · subst e
    show isL _ _ (if P.1 = P.1 then _ else _)
    rw [if_pos rfl]
    exact hle
  · show isL _ _ (if k = P.1 then _ else P.2 k)
    rw [if_neg e]
    exact ot k hk e
theorem tellC_1 {fa pl tk0 st0 en0 va0 si : Int32} (h_rd : σ.2 r = some (.inr (.inr (5, [.ref (r + 1), .ref (r + 12), .int fa, .int pl, .ref b, .int (nI n), .int tk0, .int st0, .int en0, .int va0, .ref (r + 20), .int si])))) {nu : Nat → Int32} (h_nu : σ.2 (r + 20) = some (.inl (0, 4, nu))) (hP : isP σ (r + 12) P) (h6 : P.1 < 6) {nn : Nat → Nat} (hnu : ∀ i, i < 4 → nu i = nI (nn i)) : RetX Γ m_Reader_tellClass [.ref r, .int 1] σ (r + 12) (r + 20) none (fun τ => isP τ (r + 12) (LnP 16 nn P)) := by
  obtain ⟨p0, ⟨fp, p1, p2⟩, p3⟩ := id hP
  have hle : σ.2 (r + 12 + 2 + P.1) = some (.inr (.inr (4, [(.int (P.2 P.1 0)), (.int (P.2 P.1 1)), (.int (P.2 P.1 2)), (.int (P.2 P.1 3)), (.int (P.2 P.1 4)), (.int (P.2 P.1 5))]))) := p3 P.1 h6
  have ot : ∀ k, k < 6 → k ≠ P.1 → isL σ (r + 12 + 2 + k) (P.2 k) := fun k hk _ => p3 k hk
  unfold RetX
  generalize hQ : ((fun (r0 : Option Value) (τ : ex_S) => r0 = none ∧ frm σ τ (r + 12) (r + 20) ∧ (fun τ : ex_S => isP τ (r + 12) (LnP 16 nn P)) τ)) = Q
  refine Ret.start pm_123 rfl ?_
  have fr : frm σ σ (r + 12) (r + 20) := frm.rf
  refine Ev.aload_n rfl rfl ?_
  refine Ev.getf rfl rfl h_rd rfl ?_
  refine Ev.getf rfl rfl p0 rfl ?_
  refine Ev.aload_n rfl rfl ?_
  refine Ev.getf rfl rfl h_rd rfl ?_
  refine Ev.getf rfl rfl p0 rfl ?_
  refine Ev.aaldN (k := P.1) rfl p1 rfl rfl ⟨(by omega), by decide⟩ (p2 P.1 (by omega)) ?_
  refine Ev.astore_n rfl rfl rfl ?_
  refine Ev.aload_n rfl rfl ?_
  refine Ev.iload_n rfl rfl ?_
  refine Ev.putE rfl rfl hle rfl rfl rfl (Nat.le_of_ble_eq_true rfl) (fun τ1 f1 hle => ?_)
  replace hle : τ1.2 (r + 12 + 2 + P.1) = some (.inr (.inr (4, [(.int (1 : Int32)), (.int (P.2 P.1 1)), (.int (P.2 P.1 2)), (.int (P.2 P.1 3)), (.int (P.2 P.1 4)), (.int (P.2 P.1 5))]))) := hle
  have h_rd := frm.cell f1 h_rd (by omega)
  have h_nu := frm.cell f1 h_nu (by omega)
  have p0 := frm.cell f1 p0 (by omega)
  have p1 := frm.cell f1 p1 (by omega)
  have ot := fun k k1 k2 => (ot k k1 k2).frm f1 (by omega)
  have fr := fr.step f1 (by omega) (by omega)
  refine Ev.aload_n rfl rfl ?_
  refine Ev.aload_n rfl rfl ?_
  refine Ev.getf rfl rfl h_rd rfl ?_
  refine Ev.iconst (v := 0) rfl (by decide) ?_
  refine Ev.ialdN (k := 0) rfl h_nu (rfl : (0 : Int32) = nI 0) ⟨(by omega), by decide⟩ ?_
  rw [show nu 0 = nI (nn 0) from hnu 0 (by decide)]
  refine Ev.putE rfl rfl hle rfl rfl rfl (Nat.le_of_ble_eq_true rfl) (fun τ2 f1 hle => ?_)
  replace hle : τ2.2 (r + 12 + 2 + P.1) = some (.inr (.inr (4, [(.int (1 : Int32)), (.int (nI (nn 0))), (.int (P.2 P.1 2)), (.int (P.2 P.1 3)), (.int (P.2 P.1 4)), (.int (P.2 P.1 5))]))) := hle
  have h_rd := frm.cell f1 h_rd (by omega)
  have h_nu := frm.cell f1 h_nu (by omega)
  have p0 := frm.cell f1 p0 (by omega)
  have p1 := frm.cell f1 p1 (by omega)
  have ot := fun k k1 k2 => (ot k k1 k2).frm f1 (by omega)
  have fr := fr.step f1 (by omega) (by omega)
  refine Ev.aload_n rfl rfl ?_
  refine Ev.aload_n rfl rfl ?_
  refine Ev.getf rfl rfl h_rd rfl ?_
  refine Ev.iconst (v := 1) rfl (by decide) ?_
  refine Ev.ialdN (k := 1) rfl h_nu (rfl : (1 : Int32) = nI 1) ⟨(by omega), by decide⟩ ?_
  rw [show nu 1 = nI (nn 1) from hnu 1 (by decide)]
  refine Ev.putE rfl rfl hle rfl rfl rfl (Nat.le_of_ble_eq_true rfl) (fun τ3 f1 hle => ?_)
  replace hle : τ3.2 (r + 12 + 2 + P.1) = some (.inr (.inr (4, [(.int (1 : Int32)), (.int (nI (nn 0))), (.int (nI (nn 1))), (.int (P.2 P.1 3)), (.int (P.2 P.1 4)), (.int (P.2 P.1 5))]))) := hle
  have h_rd := frm.cell f1 h_rd (by omega)
  have h_nu := frm.cell f1 h_nu (by omega)
  have p0 := frm.cell f1 p0 (by omega)
  have p1 := frm.cell f1 p1 (by omega)
  have ot := fun k k1 k2 => (ot k k1 k2).frm f1 (by omega)
  have fr := fr.step f1 (by omega) (by omega)
  refine Ev.aload_n rfl rfl ?_
  refine Ev.aload_n rfl rfl ?_
  refine Ev.getf rfl rfl h_rd rfl ?_
  refine Ev.iconst (v := 2) rfl (by decide) ?_
  refine Ev.ialdN (k := 2) rfl h_nu (rfl : (2 : Int32) = nI 2) ⟨(by omega), by decide⟩ ?_
  rw [show nu 2 = nI (nn 2) from hnu 2 (by decide)]
  refine Ev.putE rfl rfl hle rfl rfl rfl (Nat.le_of_ble_eq_true rfl) (fun τ4 f1 hle => ?_)
  replace hle : τ4.2 (r + 12 + 2 + P.1) = some (.inr (.inr (4, [(.int (1 : Int32)), (.int (nI (nn 0))), (.int (nI (nn 1))), (.int (nI (nn 2))), (.int (P.2 P.1 4)), (.int (P.2 P.1 5))]))) := hle
  have h_rd := frm.cell f1 h_rd (by omega)
  have h_nu := frm.cell f1 h_nu (by omega)
  have p0 := frm.cell f1 p0 (by omega)
  have p1 := frm.cell f1 p1 (by omega)
  have ot := fun k k1 k2 => (ot k k1 k2).frm f1 (by omega)
  have fr := fr.step f1 (by omega) (by omega)
  refine Ev.aload_n rfl rfl ?_
  refine Ev.iload_n rfl rfl ?_
  refine Ev.iconst (v := 1) rfl (by decide) ?_
  refine Ev.jne (tgt := 66) rfl (by decide) (fun c54 => absurd (by decide) c54) (fun c54 => ?_)
  refine Ev.aload_n rfl rfl ?_
  refine Ev.getf rfl rfl h_rd rfl ?_
  refine Ev.iconst (v := 3) rfl (by decide) ?_
  refine Ev.ialdN (k := 3) rfl h_nu (rfl : (3 : Int32) = nI 3) ⟨(by omega), by decide⟩ ?_
  rw [show nu 3 = nI (nn 3) from hnu 3 (by decide)]
  refine Ev.goto (tgt := 67) rfl (by decide) ?_
  refine Ev.putE rfl rfl hle rfl rfl rfl (Nat.le_of_ble_eq_true rfl) (fun τ5 f1 hle => ?_)
  replace hle : τ5.2 (r + 12 + 2 + P.1) = some (.inr (.inr (4, [(.int (1 : Int32)), (.int (nI (nn 0))), (.int (nI (nn 1))), (.int (nI (nn 2))), (.int (nI (nn 3))), (.int (P.2 P.1 5))]))) := hle
  have h_rd := frm.cell f1 h_rd (by omega)
  have h_nu := frm.cell f1 h_nu (by omega)
  have p0 := frm.cell f1 p0 (by omega)
  have p1 := frm.cell f1 p1 (by omega)
  have ot := fun k k1 k2 => (ot k k1 k2).frm f1 (by omega)
  have fr := fr.step f1 (by omega) (by omega)
  refine Ev.aload_n rfl rfl ?_
  refine Ev.iconst (v := 0) rfl (by decide) ?_
  refine Ev.putE rfl rfl hle rfl rfl rfl (Nat.le_of_ble_eq_true rfl) (fun τ6 f1 hle => ?_)
  replace hle : τ6.2 (r + 12 + 2 + P.1) = some (.inr (.inr (4, [(.int (1 : Int32)), (.int (nI (nn 0))), (.int (nI (nn 1))), (.int (nI (nn 2))), (.int (nI (nn 3))), (.int (0 : Int32))]))) := hle
  have h_rd := frm.cell f1 h_rd (by omega)
  have h_nu := frm.cell f1 h_nu (by omega)
  have p0 := frm.cell f1 p0 (by omega)
  have p1 := frm.cell f1 p1 (by omega)
  have ot := fun k k1 k2 => (ot k k1 k2).frm f1 (by omega)
  have fr := fr.step f1 (by omega) (by omega)
  refine Ev.aload_n rfl rfl ?_
  refine Ev.getf rfl rfl h_rd rfl ?_
  refine Ev.dup rfl rfl ?_
  refine Ev.getf rfl rfl p0 rfl ?_
  refine Ev.iconst (v := 1) rfl (by decide) ?_
  refine Ev.iadd rfl ?_
  rw [show (nI P.1) + (1 : Int32) = nI (P.1 + 1) from (nq_add (a := P.1) (b := 1) rfl (rfl : (1 : Int32) = nI 1))]
  refine Ev.putE rfl rfl p0 rfl rfl rfl (Nat.le_of_ble_eq_true rfl) (fun τ7 f1 p0 => ?_)
  replace p0 : τ7.2 (r + 12) = some (.inr (.inr (3, [(.int (nI (P.1 + 1))), (.ref (r + 12 + 1))]))) := p0
  have h_rd := frm.cell f1 h_rd (by omega)
  have h_nu := frm.cell f1 h_nu (by omega)
  have p1 := frm.cell f1 p1 (by omega)
  have hle := frm.cell f1 hle (by omega)
  have ot := fun k k1 k2 => (ot k k1 k2).frm f1 (by omega)
  have fr := fr.step f1 (by omega) (by omega)
  refine Ev.ret rfl rfl (Nat.le_refl _) (Nat.le_refl _) ?_
  rw [← hQ]
  refine ⟨rfl, fr, p0, ⟨fp, p1, p2⟩, fun k hk => ?_⟩
  by_cases e : k = P.1
  · subst e
    show isL _ _ (if P.1 = P.1 then _ else _)
    rw [if_pos rfl]
    exact hle
  · show isL _ _ (if k = P.1 then _ else P.2 k)
    rw [if_neg e]
    exact ot k hk e
theorem tellC_2 {fa pl tk0 st0 en0 va0 si : Int32} (h_rd : σ.2 r = some (.inr (.inr (5, [.ref (r + 1), .ref (r + 12), .int fa, .int pl, .ref b, .int (nI n), .int tk0, .int st0, .int en0, .int va0, .ref (r + 20), .int si])))) {nu : Nat → Int32} (h_nu : σ.2 (r + 20) = some (.inl (0, 4, nu))) (hP : isP σ (r + 12) P) (h6 : P.1 < 6) {nn : Nat → Nat} (hnu : ∀ i, i < 3 → nu i = nI (nn i)) : RetX Γ m_Reader_tellClass [.ref r, .int 2] σ (r + 12) (r + 20) none (fun τ => isP τ (r + 12) (LnP 17 nn P)) := by
  obtain ⟨p0, ⟨fp, p1, p2⟩, p3⟩ := id hP
  have hle : σ.2 (r + 12 + 2 + P.1) = some (.inr (.inr (4, [(.int (P.2 P.1 0)), (.int (P.2 P.1 1)), (.int (P.2 P.1 2)), (.int (P.2 P.1 3)), (.int (P.2 P.1 4)), (.int (P.2 P.1 5))]))) := p3 P.1 h6
  have ot : ∀ k, k < 6 → k ≠ P.1 → isL σ (r + 12 + 2 + k) (P.2 k) := fun k hk _ => p3 k hk
  unfold RetX
  generalize hQ : ((fun (r0 : Option Value) (τ : ex_S) => r0 = none ∧ frm σ τ (r + 12) (r + 20) ∧ (fun τ : ex_S => isP τ (r + 12) (LnP 17 nn P)) τ)) = Q
  refine Ret.start pm_123 rfl ?_
  have fr : frm σ σ (r + 12) (r + 20) := frm.rf
  refine Ev.aload_n rfl rfl ?_
  refine Ev.getf rfl rfl h_rd rfl ?_
  refine Ev.getf rfl rfl p0 rfl ?_
  refine Ev.aload_n rfl rfl ?_
  refine Ev.getf rfl rfl h_rd rfl ?_
  refine Ev.getf rfl rfl p0 rfl ?_
  refine Ev.aaldN (k := P.1) rfl p1 rfl rfl ⟨(by omega), by decide⟩ (p2 P.1 (by omega)) ?_
  refine Ev.astore_n rfl rfl rfl ?_
  refine Ev.aload_n rfl rfl ?_
  refine Ev.iload_n rfl rfl ?_
  refine Ev.putE rfl rfl hle rfl rfl rfl (Nat.le_of_ble_eq_true rfl) (fun τ1 f1 hle => ?_)
  replace hle : τ1.2 (r + 12 + 2 + P.1) = some (.inr (.inr (4, [(.int (2 : Int32)), (.int (P.2 P.1 1)), (.int (P.2 P.1 2)), (.int (P.2 P.1 3)), (.int (P.2 P.1 4)), (.int (P.2 P.1 5))]))) := hle
  have h_rd := frm.cell f1 h_rd (by omega)
  have h_nu := frm.cell f1 h_nu (by omega)
  have p0 := frm.cell f1 p0 (by omega)
  have p1 := frm.cell f1 p1 (by omega)
  have ot := fun k k1 k2 => (ot k k1 k2).frm f1 (by omega)
  have fr := fr.step f1 (by omega) (by omega)
  refine Ev.aload_n rfl rfl ?_
  refine Ev.aload_n rfl rfl ?_
  refine Ev.getf rfl rfl h_rd rfl ?_
  refine Ev.iconst (v := 0) rfl (by decide) ?_
  refine Ev.ialdN (k := 0) rfl h_nu (rfl : (0 : Int32) = nI 0) ⟨(by omega), by decide⟩ ?_
  rw [show nu 0 = nI (nn 0) from hnu 0 (by decide)]
  refine Ev.putE rfl rfl hle rfl rfl rfl (Nat.le_of_ble_eq_true rfl) (fun τ2 f1 hle => ?_)
  replace hle : τ2.2 (r + 12 + 2 + P.1) = some (.inr (.inr (4, [(.int (2 : Int32)), (.int (nI (nn 0))), (.int (P.2 P.1 2)), (.int (P.2 P.1 3)), (.int (P.2 P.1 4)), (.int (P.2 P.1 5))]))) := hle
  have h_rd := frm.cell f1 h_rd (by omega)
  have h_nu := frm.cell f1 h_nu (by omega)
  have p0 := frm.cell f1 p0 (by omega)
  have p1 := frm.cell f1 p1 (by omega)
  have ot := fun k k1 k2 => (ot k k1 k2).frm f1 (by omega)
  have fr := fr.step f1 (by omega) (by omega)
  refine Ev.aload_n rfl rfl ?_
  refine Ev.aload_n rfl rfl ?_
  refine Ev.getf rfl rfl h_rd rfl ?_
  refine Ev.iconst (v := 1) rfl (by decide) ?_
  refine Ev.ialdN (k := 1) rfl h_nu (rfl : (1 : Int32) = nI 1) ⟨(by omega), by decide⟩ ?_
  rw [show nu 1 = nI (nn 1) from hnu 1 (by decide)]
  refine Ev.putE rfl rfl hle rfl rfl rfl (Nat.le_of_ble_eq_true rfl) (fun τ3 f1 hle => ?_)
  replace hle : τ3.2 (r + 12 + 2 + P.1) = some (.inr (.inr (4, [(.int (2 : Int32)), (.int (nI (nn 0))), (.int (nI (nn 1))), (.int (P.2 P.1 3)), (.int (P.2 P.1 4)), (.int (P.2 P.1 5))]))) := hle
  have h_rd := frm.cell f1 h_rd (by omega)
  have h_nu := frm.cell f1 h_nu (by omega)
  have p0 := frm.cell f1 p0 (by omega)
  have p1 := frm.cell f1 p1 (by omega)
  have ot := fun k k1 k2 => (ot k k1 k2).frm f1 (by omega)
  have fr := fr.step f1 (by omega) (by omega)
  refine Ev.aload_n rfl rfl ?_
  refine Ev.aload_n rfl rfl ?_
  refine Ev.getf rfl rfl h_rd rfl ?_
  refine Ev.iconst (v := 2) rfl (by decide) ?_
  refine Ev.ialdN (k := 2) rfl h_nu (rfl : (2 : Int32) = nI 2) ⟨(by omega), by decide⟩ ?_
  rw [show nu 2 = nI (nn 2) from hnu 2 (by decide)]
  refine Ev.putE rfl rfl hle rfl rfl rfl (Nat.le_of_ble_eq_true rfl) (fun τ4 f1 hle => ?_)
  replace hle : τ4.2 (r + 12 + 2 + P.1) = some (.inr (.inr (4, [(.int (2 : Int32)), (.int (nI (nn 0))), (.int (nI (nn 1))), (.int (nI (nn 2))), (.int (P.2 P.1 4)), (.int (P.2 P.1 5))]))) := hle
  have h_rd := frm.cell f1 h_rd (by omega)
  have h_nu := frm.cell f1 h_nu (by omega)
  have p0 := frm.cell f1 p0 (by omega)
  have p1 := frm.cell f1 p1 (by omega)
  have ot := fun k k1 k2 => (ot k k1 k2).frm f1 (by omega)
  have fr := fr.step f1 (by omega) (by omega)
  refine Ev.aload_n rfl rfl ?_
  refine Ev.iload_n rfl rfl ?_
  refine Ev.iconst (v := 1) rfl (by decide) ?_
  refine Ev.jne (tgt := 66) rfl (by decide) (fun c54 => ?_) (fun c54 => absurd c54 (by decide))
  refine Ev.iconst (v := (-1)) rfl (by decide) ?_
  refine Ev.putE rfl rfl hle rfl rfl rfl (Nat.le_of_ble_eq_true rfl) (fun τ5 f1 hle => ?_)
  replace hle : τ5.2 (r + 12 + 2 + P.1) = some (.inr (.inr (4, [(.int (2 : Int32)), (.int (nI (nn 0))), (.int (nI (nn 1))), (.int (nI (nn 2))), (.int (-1 : Int32)), (.int (P.2 P.1 5))]))) := hle
  have h_rd := frm.cell f1 h_rd (by omega)
  have h_nu := frm.cell f1 h_nu (by omega)
  have p0 := frm.cell f1 p0 (by omega)
  have p1 := frm.cell f1 p1 (by omega)
  have ot := fun k k1 k2 => (ot k k1 k2).frm f1 (by omega)
  have fr := fr.step f1 (by omega) (by omega)
  refine Ev.aload_n rfl rfl ?_
  refine Ev.iconst (v := 0) rfl (by decide) ?_
  refine Ev.putE rfl rfl hle rfl rfl rfl (Nat.le_of_ble_eq_true rfl) (fun τ6 f1 hle => ?_)
  replace hle : τ6.2 (r + 12 + 2 + P.1) = some (.inr (.inr (4, [(.int (2 : Int32)), (.int (nI (nn 0))), (.int (nI (nn 1))), (.int (nI (nn 2))), (.int (-1 : Int32)), (.int (0 : Int32))]))) := hle
  have h_rd := frm.cell f1 h_rd (by omega)
  have h_nu := frm.cell f1 h_nu (by omega)
  have p0 := frm.cell f1 p0 (by omega)
  have p1 := frm.cell f1 p1 (by omega)
  have ot := fun k k1 k2 => (ot k k1 k2).frm f1 (by omega)
  have fr := fr.step f1 (by omega) (by omega)
  refine Ev.aload_n rfl rfl ?_
  refine Ev.getf rfl rfl h_rd rfl ?_
  refine Ev.dup rfl rfl ?_
  refine Ev.getf rfl rfl p0 rfl ?_
  refine Ev.iconst (v := 1) rfl (by decide) ?_
  refine Ev.iadd rfl ?_
  rw [show (nI P.1) + (1 : Int32) = nI (P.1 + 1) from (nq_add (a := P.1) (b := 1) rfl (rfl : (1 : Int32) = nI 1))]
  refine Ev.putE rfl rfl p0 rfl rfl rfl (Nat.le_of_ble_eq_true rfl) (fun τ7 f1 p0 => ?_)
  replace p0 : τ7.2 (r + 12) = some (.inr (.inr (3, [(.int (nI (P.1 + 1))), (.ref (r + 12 + 1))]))) := p0
  have h_rd := frm.cell f1 h_rd (by omega)
  have h_nu := frm.cell f1 h_nu (by omega)
  have p1 := frm.cell f1 p1 (by omega)
  have hle := frm.cell f1 hle (by omega)
  have ot := fun k k1 k2 => (ot k k1 k2).frm f1 (by omega)
  have fr := fr.step f1 (by omega) (by omega)
  refine Ev.ret rfl rfl (Nat.le_refl _) (Nat.le_refl _) ?_
  rw [← hQ]
  refine ⟨rfl, fr, p0, ⟨fp, p1, p2⟩, fun k hk => ?_⟩
  by_cases e : k = P.1
  · subst e
    show isL _ _ (if P.1 = P.1 then _ else _)
    rw [if_pos rfl]
    exact hle
  · show isL _ _ (if k = P.1 then _ else P.2 k)
    rw [if_neg e]
    exact ot k hk e
theorem tellC_3 {fa pl tk0 st0 en0 va0 si : Int32} (h_rd : σ.2 r = some (.inr (.inr (5, [.ref (r + 1), .ref (r + 12), .int fa, .int pl, .ref b, .int (nI n), .int tk0, .int st0, .int en0, .int va0, .ref (r + 20), .int si])))) {nu : Nat → Int32} (h_nu : σ.2 (r + 20) = some (.inl (0, 4, nu))) (hP : isP σ (r + 12) P) (h6 : P.1 < 6) {nn : Nat → Nat} (hnu : ∀ i, i < 3 → nu i = nI (nn i)) : RetX Γ m_Reader_tellClass [.ref r, .int 3] σ (r + 12) (r + 20) none (fun τ => isP τ (r + 12) (LnP 18 nn P)) := by
  obtain ⟨p0, ⟨fp, p1, p2⟩, p3⟩ := id hP
  have hle : σ.2 (r + 12 + 2 + P.1) = some (.inr (.inr (4, [(.int (P.2 P.1 0)), (.int (P.2 P.1 1)), (.int (P.2 P.1 2)), (.int (P.2 P.1 3)), (.int (P.2 P.1 4)), (.int (P.2 P.1 5))]))) := p3 P.1 h6
  have ot : ∀ k, k < 6 → k ≠ P.1 → isL σ (r + 12 + 2 + k) (P.2 k) := fun k hk _ => p3 k hk
  unfold RetX
  generalize hQ : ((fun (r0 : Option Value) (τ : ex_S) => r0 = none ∧ frm σ τ (r + 12) (r + 20) ∧ (fun τ : ex_S => isP τ (r + 12) (LnP 18 nn P)) τ)) = Q
  refine Ret.start pm_123 rfl ?_
  have fr : frm σ σ (r + 12) (r + 20) := frm.rf
  refine Ev.aload_n rfl rfl ?_
  refine Ev.getf rfl rfl h_rd rfl ?_
  refine Ev.getf rfl rfl p0 rfl ?_
  refine Ev.aload_n rfl rfl ?_
  refine Ev.getf rfl rfl h_rd rfl ?_
  refine Ev.getf rfl rfl p0 rfl ?_
  refine Ev.aaldN (k := P.1) rfl p1 rfl rfl ⟨(by omega), by decide⟩ (p2 P.1 (by omega)) ?_
  refine Ev.astore_n rfl rfl rfl ?_
  refine Ev.aload_n rfl rfl ?_
  refine Ev.iload_n rfl rfl ?_
  refine Ev.putE rfl rfl hle rfl rfl rfl (Nat.le_of_ble_eq_true rfl) (fun τ1 f1 hle => ?_)
  replace hle : τ1.2 (r + 12 + 2 + P.1) = some (.inr (.inr (4, [(.int (3 : Int32)), (.int (P.2 P.1 1)), (.int (P.2 P.1 2)), (.int (P.2 P.1 3)), (.int (P.2 P.1 4)), (.int (P.2 P.1 5))]))) := hle
  have h_rd := frm.cell f1 h_rd (by omega)
  have h_nu := frm.cell f1 h_nu (by omega)
  have p0 := frm.cell f1 p0 (by omega)
  have p1 := frm.cell f1 p1 (by omega)
  have ot := fun k k1 k2 => (ot k k1 k2).frm f1 (by omega)
  have fr := fr.step f1 (by omega) (by omega)
  refine Ev.aload_n rfl rfl ?_
  refine Ev.aload_n rfl rfl ?_
  refine Ev.getf rfl rfl h_rd rfl ?_
  refine Ev.iconst (v := 0) rfl (by decide) ?_
  refine Ev.ialdN (k := 0) rfl h_nu (rfl : (0 : Int32) = nI 0) ⟨(by omega), by decide⟩ ?_
  rw [show nu 0 = nI (nn 0) from hnu 0 (by decide)]
  refine Ev.putE rfl rfl hle rfl rfl rfl (Nat.le_of_ble_eq_true rfl) (fun τ2 f1 hle => ?_)
  replace hle : τ2.2 (r + 12 + 2 + P.1) = some (.inr (.inr (4, [(.int (3 : Int32)), (.int (nI (nn 0))), (.int (P.2 P.1 2)), (.int (P.2 P.1 3)), (.int (P.2 P.1 4)), (.int (P.2 P.1 5))]))) := hle
  have h_rd := frm.cell f1 h_rd (by omega)
  have h_nu := frm.cell f1 h_nu (by omega)
  have p0 := frm.cell f1 p0 (by omega)
  have p1 := frm.cell f1 p1 (by omega)
  have ot := fun k k1 k2 => (ot k k1 k2).frm f1 (by omega)
  have fr := fr.step f1 (by omega) (by omega)
  refine Ev.aload_n rfl rfl ?_
  refine Ev.aload_n rfl rfl ?_
  refine Ev.getf rfl rfl h_rd rfl ?_
  refine Ev.iconst (v := 1) rfl (by decide) ?_
  refine Ev.ialdN (k := 1) rfl h_nu (rfl : (1 : Int32) = nI 1) ⟨(by omega), by decide⟩ ?_
  rw [show nu 1 = nI (nn 1) from hnu 1 (by decide)]
  refine Ev.putE rfl rfl hle rfl rfl rfl (Nat.le_of_ble_eq_true rfl) (fun τ3 f1 hle => ?_)
  replace hle : τ3.2 (r + 12 + 2 + P.1) = some (.inr (.inr (4, [(.int (3 : Int32)), (.int (nI (nn 0))), (.int (nI (nn 1))), (.int (P.2 P.1 3)), (.int (P.2 P.1 4)), (.int (P.2 P.1 5))]))) := hle
  have h_rd := frm.cell f1 h_rd (by omega)
  have h_nu := frm.cell f1 h_nu (by omega)
  have p0 := frm.cell f1 p0 (by omega)
  have p1 := frm.cell f1 p1 (by omega)
  have ot := fun k k1 k2 => (ot k k1 k2).frm f1 (by omega)
  have fr := fr.step f1 (by omega) (by omega)
  refine Ev.aload_n rfl rfl ?_
  refine Ev.aload_n rfl rfl ?_
  refine Ev.getf rfl rfl h_rd rfl ?_
  refine Ev.iconst (v := 2) rfl (by decide) ?_
  refine Ev.ialdN (k := 2) rfl h_nu (rfl : (2 : Int32) = nI 2) ⟨(by omega), by decide⟩ ?_
  rw [show nu 2 = nI (nn 2) from hnu 2 (by decide)]
  refine Ev.putE rfl rfl hle rfl rfl rfl (Nat.le_of_ble_eq_true rfl) (fun τ4 f1 hle => ?_)
  replace hle : τ4.2 (r + 12 + 2 + P.1) = some (.inr (.inr (4, [(.int (3 : Int32)), (.int (nI (nn 0))), (.int (nI (nn 1))), (.int (nI (nn 2))), (.int (P.2 P.1 4)), (.int (P.2 P.1 5))]))) := hle
  have h_rd := frm.cell f1 h_rd (by omega)
  have h_nu := frm.cell f1 h_nu (by omega)
  have p0 := frm.cell f1 p0 (by omega)
  have p1 := frm.cell f1 p1 (by omega)
  have ot := fun k k1 k2 => (ot k k1 k2).frm f1 (by omega)
  have fr := fr.step f1 (by omega) (by omega)
  refine Ev.aload_n rfl rfl ?_
  refine Ev.iload_n rfl rfl ?_
  refine Ev.iconst (v := 1) rfl (by decide) ?_
  refine Ev.jne (tgt := 66) rfl (by decide) (fun c54 => ?_) (fun c54 => absurd c54 (by decide))
  refine Ev.iconst (v := (-1)) rfl (by decide) ?_
  refine Ev.putE rfl rfl hle rfl rfl rfl (Nat.le_of_ble_eq_true rfl) (fun τ5 f1 hle => ?_)
  replace hle : τ5.2 (r + 12 + 2 + P.1) = some (.inr (.inr (4, [(.int (3 : Int32)), (.int (nI (nn 0))), (.int (nI (nn 1))), (.int (nI (nn 2))), (.int (-1 : Int32)), (.int (P.2 P.1 5))]))) := hle
  have h_rd := frm.cell f1 h_rd (by omega)
  have h_nu := frm.cell f1 h_nu (by omega)
  have p0 := frm.cell f1 p0 (by omega)
  have p1 := frm.cell f1 p1 (by omega)
  have ot := fun k k1 k2 => (ot k k1 k2).frm f1 (by omega)
  have fr := fr.step f1 (by omega) (by omega)
  refine Ev.aload_n rfl rfl ?_
  refine Ev.iconst (v := 0) rfl (by decide) ?_
  refine Ev.putE rfl rfl hle rfl rfl rfl (Nat.le_of_ble_eq_true rfl) (fun τ6 f1 hle => ?_)
  replace hle : τ6.2 (r + 12 + 2 + P.1) = some (.inr (.inr (4, [(.int (3 : Int32)), (.int (nI (nn 0))), (.int (nI (nn 1))), (.int (nI (nn 2))), (.int (-1 : Int32)), (.int (0 : Int32))]))) := hle
  have h_rd := frm.cell f1 h_rd (by omega)
  have h_nu := frm.cell f1 h_nu (by omega)
  have p0 := frm.cell f1 p0 (by omega)
  have p1 := frm.cell f1 p1 (by omega)
  have ot := fun k k1 k2 => (ot k k1 k2).frm f1 (by omega)
  have fr := fr.step f1 (by omega) (by omega)
  refine Ev.aload_n rfl rfl ?_
  refine Ev.getf rfl rfl h_rd rfl ?_
  refine Ev.dup rfl rfl ?_
  refine Ev.getf rfl rfl p0 rfl ?_
  refine Ev.iconst (v := 1) rfl (by decide) ?_
  refine Ev.iadd rfl ?_
  rw [show (nI P.1) + (1 : Int32) = nI (P.1 + 1) from (nq_add (a := P.1) (b := 1) rfl (rfl : (1 : Int32) = nI 1))]
  refine Ev.putE rfl rfl p0 rfl rfl rfl (Nat.le_of_ble_eq_true rfl) (fun τ7 f1 p0 => ?_)
  replace p0 : τ7.2 (r + 12) = some (.inr (.inr (3, [(.int (nI (P.1 + 1))), (.ref (r + 12 + 1))]))) := p0
  have h_rd := frm.cell f1 h_rd (by omega)
  have h_nu := frm.cell f1 h_nu (by omega)
  have p1 := frm.cell f1 p1 (by omega)
  have hle := frm.cell f1 hle (by omega)
  have ot := fun k k1 k2 => (ot k k1 k2).frm f1 (by omega)
  have fr := fr.step f1 (by omega) (by omega)
  refine Ev.ret rfl rfl (Nat.le_refl _) (Nat.le_refl _) ?_
  rw [← hQ]
  refine ⟨rfl, fr, p0, ⟨fp, p1, p2⟩, fun k hk => ?_⟩
  by_cases e : k = P.1
  · subst e
    show isL _ _ (if P.1 = P.1 then _ else _)
    rw [if_pos rfl]
    exact hle
  · show isL _ _ (if k = P.1 then _ else P.2 k)
    rw [if_neg e]
    exact ot k hk e
theorem tellC_4 {fa pl tk0 st0 en0 va0 si : Int32} (h_rd : σ.2 r = some (.inr (.inr (5, [.ref (r + 1), .ref (r + 12), .int fa, .int pl, .ref b, .int (nI n), .int tk0, .int st0, .int en0, .int va0, .ref (r + 20), .int si])))) {nu : Nat → Int32} (h_nu : σ.2 (r + 20) = some (.inl (0, 4, nu))) (hP : isP σ (r + 12) P) (h6 : P.1 < 6) {nn : Nat → Nat} (hnu : ∀ i, i < 3 → nu i = nI (nn i)) : RetX Γ m_Reader_tellClass [.ref r, .int 4] σ (r + 12) (r + 20) none (fun τ => isP τ (r + 12) (LnP 19 nn P)) := by
  obtain ⟨p0, ⟨fp, p1, p2⟩, p3⟩ := id hP
  have hle : σ.2 (r + 12 + 2 + P.1) = some (.inr (.inr (4, [(.int (P.2 P.1 0)), (.int (P.2 P.1 1)), (.int (P.2 P.1 2)), (.int (P.2 P.1 3)), (.int (P.2 P.1 4)), (.int (P.2 P.1 5))]))) := p3 P.1 h6
  have ot : ∀ k, k < 6 → k ≠ P.1 → isL σ (r + 12 + 2 + k) (P.2 k) := fun k hk _ => p3 k hk
  unfold RetX
  generalize hQ : ((fun (r0 : Option Value) (τ : ex_S) => r0 = none ∧ frm σ τ (r + 12) (r + 20) ∧ (fun τ : ex_S => isP τ (r + 12) (LnP 19 nn P)) τ)) = Q
  refine Ret.start pm_123 rfl ?_
  have fr : frm σ σ (r + 12) (r + 20) := frm.rf
  refine Ev.aload_n rfl rfl ?_
  refine Ev.getf rfl rfl h_rd rfl ?_
  refine Ev.getf rfl rfl p0 rfl ?_
  refine Ev.aload_n rfl rfl ?_
  refine Ev.getf rfl rfl h_rd rfl ?_
  refine Ev.getf rfl rfl p0 rfl ?_
  refine Ev.aaldN (k := P.1) rfl p1 rfl rfl ⟨(by omega), by decide⟩ (p2 P.1 (by omega)) ?_
  refine Ev.astore_n rfl rfl rfl ?_
  refine Ev.aload_n rfl rfl ?_
  refine Ev.iload_n rfl rfl ?_
  refine Ev.putE rfl rfl hle rfl rfl rfl (Nat.le_of_ble_eq_true rfl) (fun τ1 f1 hle => ?_)
  replace hle : τ1.2 (r + 12 + 2 + P.1) = some (.inr (.inr (4, [(.int (4 : Int32)), (.int (P.2 P.1 1)), (.int (P.2 P.1 2)), (.int (P.2 P.1 3)), (.int (P.2 P.1 4)), (.int (P.2 P.1 5))]))) := hle
  have h_rd := frm.cell f1 h_rd (by omega)
  have h_nu := frm.cell f1 h_nu (by omega)
  have p0 := frm.cell f1 p0 (by omega)
  have p1 := frm.cell f1 p1 (by omega)
  have ot := fun k k1 k2 => (ot k k1 k2).frm f1 (by omega)
  have fr := fr.step f1 (by omega) (by omega)
  refine Ev.aload_n rfl rfl ?_
  refine Ev.aload_n rfl rfl ?_
  refine Ev.getf rfl rfl h_rd rfl ?_
  refine Ev.iconst (v := 0) rfl (by decide) ?_
  refine Ev.ialdN (k := 0) rfl h_nu (rfl : (0 : Int32) = nI 0) ⟨(by omega), by decide⟩ ?_
  rw [show nu 0 = nI (nn 0) from hnu 0 (by decide)]
  refine Ev.putE rfl rfl hle rfl rfl rfl (Nat.le_of_ble_eq_true rfl) (fun τ2 f1 hle => ?_)
  replace hle : τ2.2 (r + 12 + 2 + P.1) = some (.inr (.inr (4, [(.int (4 : Int32)), (.int (nI (nn 0))), (.int (P.2 P.1 2)), (.int (P.2 P.1 3)), (.int (P.2 P.1 4)), (.int (P.2 P.1 5))]))) := hle
  have h_rd := frm.cell f1 h_rd (by omega)
  have h_nu := frm.cell f1 h_nu (by omega)
  have p0 := frm.cell f1 p0 (by omega)
  have p1 := frm.cell f1 p1 (by omega)
  have ot := fun k k1 k2 => (ot k k1 k2).frm f1 (by omega)
  have fr := fr.step f1 (by omega) (by omega)
  refine Ev.aload_n rfl rfl ?_
  refine Ev.aload_n rfl rfl ?_
  refine Ev.getf rfl rfl h_rd rfl ?_
  refine Ev.iconst (v := 1) rfl (by decide) ?_
  refine Ev.ialdN (k := 1) rfl h_nu (rfl : (1 : Int32) = nI 1) ⟨(by omega), by decide⟩ ?_
  rw [show nu 1 = nI (nn 1) from hnu 1 (by decide)]
  refine Ev.putE rfl rfl hle rfl rfl rfl (Nat.le_of_ble_eq_true rfl) (fun τ3 f1 hle => ?_)
  replace hle : τ3.2 (r + 12 + 2 + P.1) = some (.inr (.inr (4, [(.int (4 : Int32)), (.int (nI (nn 0))), (.int (nI (nn 1))), (.int (P.2 P.1 3)), (.int (P.2 P.1 4)), (.int (P.2 P.1 5))]))) := hle
  have h_rd := frm.cell f1 h_rd (by omega)
  have h_nu := frm.cell f1 h_nu (by omega)
  have p0 := frm.cell f1 p0 (by omega)
  have p1 := frm.cell f1 p1 (by omega)
  have ot := fun k k1 k2 => (ot k k1 k2).frm f1 (by omega)
  have fr := fr.step f1 (by omega) (by omega)
  refine Ev.aload_n rfl rfl ?_
  refine Ev.aload_n rfl rfl ?_
  refine Ev.getf rfl rfl h_rd rfl ?_
  refine Ev.iconst (v := 2) rfl (by decide) ?_
  refine Ev.ialdN (k := 2) rfl h_nu (rfl : (2 : Int32) = nI 2) ⟨(by omega), by decide⟩ ?_
  rw [show nu 2 = nI (nn 2) from hnu 2 (by decide)]
  refine Ev.putE rfl rfl hle rfl rfl rfl (Nat.le_of_ble_eq_true rfl) (fun τ4 f1 hle => ?_)
  replace hle : τ4.2 (r + 12 + 2 + P.1) = some (.inr (.inr (4, [(.int (4 : Int32)), (.int (nI (nn 0))), (.int (nI (nn 1))), (.int (nI (nn 2))), (.int (P.2 P.1 4)), (.int (P.2 P.1 5))]))) := hle
  have h_rd := frm.cell f1 h_rd (by omega)
  have h_nu := frm.cell f1 h_nu (by omega)
  have p0 := frm.cell f1 p0 (by omega)
  have p1 := frm.cell f1 p1 (by omega)
  have ot := fun k k1 k2 => (ot k k1 k2).frm f1 (by omega)
  have fr := fr.step f1 (by omega) (by omega)
  refine Ev.aload_n rfl rfl ?_
  refine Ev.iload_n rfl rfl ?_
  refine Ev.iconst (v := 1) rfl (by decide) ?_
  refine Ev.jne (tgt := 66) rfl (by decide) (fun c54 => ?_) (fun c54 => absurd c54 (by decide))
  refine Ev.iconst (v := (-1)) rfl (by decide) ?_
  refine Ev.putE rfl rfl hle rfl rfl rfl (Nat.le_of_ble_eq_true rfl) (fun τ5 f1 hle => ?_)
  replace hle : τ5.2 (r + 12 + 2 + P.1) = some (.inr (.inr (4, [(.int (4 : Int32)), (.int (nI (nn 0))), (.int (nI (nn 1))), (.int (nI (nn 2))), (.int (-1 : Int32)), (.int (P.2 P.1 5))]))) := hle
  have h_rd := frm.cell f1 h_rd (by omega)
  have h_nu := frm.cell f1 h_nu (by omega)
  have p0 := frm.cell f1 p0 (by omega)
  have p1 := frm.cell f1 p1 (by omega)
  have ot := fun k k1 k2 => (ot k k1 k2).frm f1 (by omega)
  have fr := fr.step f1 (by omega) (by omega)
  refine Ev.aload_n rfl rfl ?_
  refine Ev.iconst (v := 0) rfl (by decide) ?_
  refine Ev.putE rfl rfl hle rfl rfl rfl (Nat.le_of_ble_eq_true rfl) (fun τ6 f1 hle => ?_)
  replace hle : τ6.2 (r + 12 + 2 + P.1) = some (.inr (.inr (4, [(.int (4 : Int32)), (.int (nI (nn 0))), (.int (nI (nn 1))), (.int (nI (nn 2))), (.int (-1 : Int32)), (.int (0 : Int32))]))) := hle
  have h_rd := frm.cell f1 h_rd (by omega)
  have h_nu := frm.cell f1 h_nu (by omega)
  have p0 := frm.cell f1 p0 (by omega)
  have p1 := frm.cell f1 p1 (by omega)
  have ot := fun k k1 k2 => (ot k k1 k2).frm f1 (by omega)
  have fr := fr.step f1 (by omega) (by omega)
  refine Ev.aload_n rfl rfl ?_
  refine Ev.getf rfl rfl h_rd rfl ?_
  refine Ev.dup rfl rfl ?_
  refine Ev.getf rfl rfl p0 rfl ?_
  refine Ev.iconst (v := 1) rfl (by decide) ?_
  refine Ev.iadd rfl ?_
  rw [show (nI P.1) + (1 : Int32) = nI (P.1 + 1) from (nq_add (a := P.1) (b := 1) rfl (rfl : (1 : Int32) = nI 1))]
  refine Ev.putE rfl rfl p0 rfl rfl rfl (Nat.le_of_ble_eq_true rfl) (fun τ7 f1 p0 => ?_)
  replace p0 : τ7.2 (r + 12) = some (.inr (.inr (3, [(.int (nI (P.1 + 1))), (.ref (r + 12 + 1))]))) := p0
  have h_rd := frm.cell f1 h_rd (by omega)
  have h_nu := frm.cell f1 h_nu (by omega)
  have p1 := frm.cell f1 p1 (by omega)
  have hle := frm.cell f1 hle (by omega)
  have ot := fun k k1 k2 => (ot k k1 k2).frm f1 (by omega)
  have fr := fr.step f1 (by omega) (by omega)
  refine Ev.ret rfl rfl (Nat.le_refl _) (Nat.le_refl _) ?_
  rw [← hQ]
  refine ⟨rfl, fr, p0, ⟨fp, p1, p2⟩, fun k hk => ?_⟩
  by_cases e : k = P.1
  · subst e
    show isL _ _ (if P.1 = P.1 then _ else _)
    rw [if_pos rfl]
    exact hle
  · show isL _ _ (if k = P.1 then _ else P.2 k)
    rw [if_neg e]
    exact ot k hk e
theorem tell_15 {fa pl tk0 st0 en0 va0 si : Int32} (h_rd : σ.2 r = some (.inr (.inr (5, [.ref (r + 1), .ref (r + 12), .int fa, .int pl, .ref b, .int (nI n), .int tk0, .int st0, .int en0, .int va0, .ref (r + 20), .int si])))) {nu : Nat → Int32} (h_nu : σ.2 (r + 20) = some (.inl (0, 4, nu))) (hP : isP σ (r + 12) P) (h6 : P.1 < 6) {nn : Nat → Nat} (hnu : ∀ i, i < 3 → nu i = nI (nn i)) : RetX Γ m_Reader_tell [.ref r, .int 15] σ (r + 12) (r + 20) none (fun τ => isP τ (r + 12) (LnP 15 nn P)) := by
  obtain ⟨p0, ⟨fp, p1, p2⟩, p3⟩ := id hP
  unfold RetX
  generalize hQ : ((fun (r0 : Option Value) (τ : ex_S) => r0 = none ∧ frm σ τ (r + 12) (r + 20) ∧ (fun τ : ex_S => isP τ (r + 12) (LnP 15 nn P)) τ)) = Q
  refine Ret.start pm_122 rfl ?_
  have fr : frm σ σ (r + 12) (r + 20) := frm.rf
  refine Ev.aload_n rfl rfl ?_
  refine Ev.getf rfl rfl h_rd rfl ?_
  refine Ev.iconst (v := 0) rfl (by decide) ?_
  refine Ev.ialdN (k := 0) rfl h_nu (rfl : (0 : Int32) = nI 0) ⟨(by omega), by decide⟩ ?_
  refine Ev.istore_n rfl rfl rfl ?_
  refine Ev.aload_n rfl rfl ?_
  refine Ev.getf rfl rfl h_rd rfl ?_
  refine Ev.iconst (v := 1) rfl (by decide) ?_
  refine Ev.ialdN (k := 1) rfl h_nu (rfl : (1 : Int32) = nI 1) ⟨(by omega), by decide⟩ ?_
  refine Ev.istore_n rfl rfl rfl ?_
  refine Ev.aload_n rfl rfl ?_
  refine Ev.getf rfl rfl h_rd rfl ?_
  refine Ev.iconst (v := 2) rfl (by decide) ?_
  refine Ev.ialdN (k := 2) rfl h_nu (rfl : (2 : Int32) = nI 2) ⟨(by omega), by decide⟩ ?_
  refine Ev.istore rfl rfl rfl ?_
  refine Ev.iload_n rfl rfl ?_
  refine Ev.zne (tgt := 40) rfl (by decide) (fun c23 => ?_) (fun c23 => absurd c23 (by decide))
  refine Ev.iload_n rfl rfl ?_
  refine Ev.iconst (v := 1) rfl (by decide) ?_
  refine Ev.jne (tgt := 57) rfl (by decide) (fun c42 => ?_) (fun c42 => absurd c42 (by decide))
  refine Ev.iload_n rfl rfl ?_
  refine Ev.iconst (v := 2) rfl (by decide) ?_
  refine Ev.jne (tgt := 86) rfl (by decide) (fun c59 => ?_) (fun c59 => absurd c59 (by decide))
  refine Ev.iload_n rfl rfl ?_
  refine Ev.iconst (v := 3) rfl (by decide) ?_
  refine Ev.jne (tgt := 103) rfl (by decide) (fun c88 => ?_) (fun c88 => absurd c88 (by decide))
  refine Ev.iload_n rfl rfl ?_
  refine Ev.iconst (v := 4) rfl (by decide) ?_
  refine Ev.jeq (tgt := 113) rfl (by decide) (fun c105 => absurd c105 (by decide)) (fun c105 => ?_)
  refine Ev.iload_n rfl rfl ?_
  refine Ev.iconst (v := 5) rfl (by decide) ?_
  refine Ev.jne (tgt := 160) rfl (by decide) (fun c110 => ?_) (fun c110 => absurd c110 (by decide))
  refine Ev.iload_n rfl rfl ?_
  refine Ev.bipush (v := 6) rfl (by decide) ?_
  refine Ev.jne (tgt := 189) rfl (by decide) (fun c163 => ?_) (fun c163 => absurd c163 (by decide))
  refine Ev.iload_n rfl rfl ?_
  refine Ev.bipush (v := 7) rfl (by decide) ?_
  refine Ev.jne (tgt := 218) rfl (by decide) (fun c192 => ?_) (fun c192 => absurd c192 (by decide))
  refine Ev.iload_n rfl rfl ?_
  refine Ev.bipush (v := 8) rfl (by decide) ?_
  refine Ev.jlt (tgt := 248) rfl (by decide) (fun c221 => absurd c221 (by decide)) (fun c221 => ?_)
  refine Ev.iload_n rfl rfl ?_
  refine Ev.bipush (v := 15) rfl (by decide) ?_
  refine Ev.jge (tgt := 248) rfl (by decide) (fun c227 => ?_) (fun c227 => absurd c227 (by decide))
  refine Ev.iload_n rfl rfl ?_
  refine Ev.bipush (v := 20) rfl (by decide) ?_
  refine Ev.jne (tgt := 296) rfl (by decide) (fun c251 => ?_) (fun c251 => absurd c251 (by decide))
  refine Ev.iload_n rfl rfl ?_
  refine Ev.bipush (v := 15) rfl (by decide) ?_
  refine Ev.jlt (tgt := 328) rfl (by decide) (fun c299 => absurd c299 (by decide)) (fun c299 => ?_)
  refine Ev.iload_n rfl rfl ?_
  refine Ev.bipush (v := 20) rfl (by decide) ?_
  refine Ev.jge (tgt := 328) rfl (by decide) (fun c305 => absurd (by decide) c305) (fun c305 => ?_)
  refine Ev.aload_n rfl rfl ?_
  refine Ev.getf rfl rfl h_rd rfl ?_
  refine Ev.getf rfl rfl p0 rfl ?_
  refine Ev.bipush (v := 6) rfl (by decide) ?_
  refine Ev.jge (tgt := 328) rfl (by decide) (fun c317 => absurd (nI_lt (b := 6) h6 (by decide)) c317) (fun c317 => ?_)
  refine Ev.aload_n rfl rfl ?_
  refine Ev.iload_n rfl rfl ?_
  refine Ev.bipush (v := 15) rfl (by decide) ?_
  refine Ev.isub rfl ?_
  rw [show (15 : Int32) - (15 : Int32) = (0 : Int32) from by decide]
  refine Ev.xV1u rfl rfl h_rd rfl rfl (by decide) ⟨(Nat.le_refl _), (Nat.le_refl _)⟩ (tellC_0 h_rd h_nu hP h6 hnu) (fun τ700 f9 q9 => ?_)
  have fr := fr.step f9 (by omega) (by omega)
  refine Ev.ret rfl rfl (Nat.le_refl _) (Nat.le_refl _) ?_
  rw [← hQ]
  exact ⟨rfl, fr, q9⟩
theorem tell_16 {fa pl tk0 st0 en0 va0 si : Int32} (h_rd : σ.2 r = some (.inr (.inr (5, [.ref (r + 1), .ref (r + 12), .int fa, .int pl, .ref b, .int (nI n), .int tk0, .int st0, .int en0, .int va0, .ref (r + 20), .int si])))) {nu : Nat → Int32} (h_nu : σ.2 (r + 20) = some (.inl (0, 4, nu))) (hP : isP σ (r + 12) P) (h6 : P.1 < 6) {nn : Nat → Nat} (hnu : ∀ i, i < 4 → nu i = nI (nn i)) : RetX Γ m_Reader_tell [.ref r, .int 16] σ (r + 12) (r + 20) none (fun τ => isP τ (r + 12) (LnP 16 nn P)) := by
  obtain ⟨p0, ⟨fp, p1, p2⟩, p3⟩ := id hP
  unfold RetX
  generalize hQ : ((fun (r0 : Option Value) (τ : ex_S) => r0 = none ∧ frm σ τ (r + 12) (r + 20) ∧ (fun τ : ex_S => isP τ (r + 12) (LnP 16 nn P)) τ)) = Q
  refine Ret.start pm_122 rfl ?_
  have fr : frm σ σ (r + 12) (r + 20) := frm.rf
  refine Ev.aload_n rfl rfl ?_
  refine Ev.getf rfl rfl h_rd rfl ?_
  refine Ev.iconst (v := 0) rfl (by decide) ?_
  refine Ev.ialdN (k := 0) rfl h_nu (rfl : (0 : Int32) = nI 0) ⟨(by omega), by decide⟩ ?_
  refine Ev.istore_n rfl rfl rfl ?_
  refine Ev.aload_n rfl rfl ?_
  refine Ev.getf rfl rfl h_rd rfl ?_
  refine Ev.iconst (v := 1) rfl (by decide) ?_
  refine Ev.ialdN (k := 1) rfl h_nu (rfl : (1 : Int32) = nI 1) ⟨(by omega), by decide⟩ ?_
  refine Ev.istore_n rfl rfl rfl ?_
  refine Ev.aload_n rfl rfl ?_
  refine Ev.getf rfl rfl h_rd rfl ?_
  refine Ev.iconst (v := 2) rfl (by decide) ?_
  refine Ev.ialdN (k := 2) rfl h_nu (rfl : (2 : Int32) = nI 2) ⟨(by omega), by decide⟩ ?_
  refine Ev.istore rfl rfl rfl ?_
  refine Ev.iload_n rfl rfl ?_
  refine Ev.zne (tgt := 40) rfl (by decide) (fun c23 => ?_) (fun c23 => absurd c23 (by decide))
  refine Ev.iload_n rfl rfl ?_
  refine Ev.iconst (v := 1) rfl (by decide) ?_
  refine Ev.jne (tgt := 57) rfl (by decide) (fun c42 => ?_) (fun c42 => absurd c42 (by decide))
  refine Ev.iload_n rfl rfl ?_
  refine Ev.iconst (v := 2) rfl (by decide) ?_
  refine Ev.jne (tgt := 86) rfl (by decide) (fun c59 => ?_) (fun c59 => absurd c59 (by decide))
  refine Ev.iload_n rfl rfl ?_
  refine Ev.iconst (v := 3) rfl (by decide) ?_
  refine Ev.jne (tgt := 103) rfl (by decide) (fun c88 => ?_) (fun c88 => absurd c88 (by decide))
  refine Ev.iload_n rfl rfl ?_
  refine Ev.iconst (v := 4) rfl (by decide) ?_
  refine Ev.jeq (tgt := 113) rfl (by decide) (fun c105 => absurd c105 (by decide)) (fun c105 => ?_)
  refine Ev.iload_n rfl rfl ?_
  refine Ev.iconst (v := 5) rfl (by decide) ?_
  refine Ev.jne (tgt := 160) rfl (by decide) (fun c110 => ?_) (fun c110 => absurd c110 (by decide))
  refine Ev.iload_n rfl rfl ?_
  refine Ev.bipush (v := 6) rfl (by decide) ?_
  refine Ev.jne (tgt := 189) rfl (by decide) (fun c163 => ?_) (fun c163 => absurd c163 (by decide))
  refine Ev.iload_n rfl rfl ?_
  refine Ev.bipush (v := 7) rfl (by decide) ?_
  refine Ev.jne (tgt := 218) rfl (by decide) (fun c192 => ?_) (fun c192 => absurd c192 (by decide))
  refine Ev.iload_n rfl rfl ?_
  refine Ev.bipush (v := 8) rfl (by decide) ?_
  refine Ev.jlt (tgt := 248) rfl (by decide) (fun c221 => absurd c221 (by decide)) (fun c221 => ?_)
  refine Ev.iload_n rfl rfl ?_
  refine Ev.bipush (v := 15) rfl (by decide) ?_
  refine Ev.jge (tgt := 248) rfl (by decide) (fun c227 => ?_) (fun c227 => absurd c227 (by decide))
  refine Ev.iload_n rfl rfl ?_
  refine Ev.bipush (v := 20) rfl (by decide) ?_
  refine Ev.jne (tgt := 296) rfl (by decide) (fun c251 => ?_) (fun c251 => absurd c251 (by decide))
  refine Ev.iload_n rfl rfl ?_
  refine Ev.bipush (v := 15) rfl (by decide) ?_
  refine Ev.jlt (tgt := 328) rfl (by decide) (fun c299 => absurd c299 (by decide)) (fun c299 => ?_)
  refine Ev.iload_n rfl rfl ?_
  refine Ev.bipush (v := 20) rfl (by decide) ?_
  refine Ev.jge (tgt := 328) rfl (by decide) (fun c305 => absurd (by decide) c305) (fun c305 => ?_)
  refine Ev.aload_n rfl rfl ?_
  refine Ev.getf rfl rfl h_rd rfl ?_
  refine Ev.getf rfl rfl p0 rfl ?_
  refine Ev.bipush (v := 6) rfl (by decide) ?_
  refine Ev.jge (tgt := 328) rfl (by decide) (fun c317 => absurd (nI_lt (b := 6) h6 (by decide)) c317) (fun c317 => ?_)
  refine Ev.aload_n rfl rfl ?_
  refine Ev.iload_n rfl rfl ?_
  refine Ev.bipush (v := 15) rfl (by decide) ?_
  refine Ev.isub rfl ?_
  rw [show (16 : Int32) - (15 : Int32) = (1 : Int32) from by decide]
  refine Ev.xV1u rfl rfl h_rd rfl rfl (by decide) ⟨(Nat.le_refl _), (Nat.le_refl _)⟩ (tellC_1 h_rd h_nu hP h6 hnu) (fun τ700 f9 q9 => ?_)
  have fr := fr.step f9 (by omega) (by omega)
  refine Ev.ret rfl rfl (Nat.le_refl _) (Nat.le_refl _) ?_
  rw [← hQ]
  exact ⟨rfl, fr, q9⟩
theorem tell_17 {fa pl tk0 st0 en0 va0 si : Int32} (h_rd : σ.2 r = some (.inr (.inr (5, [.ref (r + 1), .ref (r + 12), .int fa, .int pl, .ref b, .int (nI n), .int tk0, .int st0, .int en0, .int va0, .ref (r + 20), .int si])))) {nu : Nat → Int32} (h_nu : σ.2 (r + 20) = some (.inl (0, 4, nu))) (hP : isP σ (r + 12) P) (h6 : P.1 < 6) {nn : Nat → Nat} (hnu : ∀ i, i < 3 → nu i = nI (nn i)) : RetX Γ m_Reader_tell [.ref r, .int 17] σ (r + 12) (r + 20) none (fun τ => isP τ (r + 12) (LnP 17 nn P)) := by
  obtain ⟨p0, ⟨fp, p1, p2⟩, p3⟩ := id hP
  unfold RetX
  generalize hQ : ((fun (r0 : Option Value) (τ : ex_S) => r0 = none ∧ frm σ τ (r + 12) (r + 20) ∧ (fun τ : ex_S => isP τ (r + 12) (LnP 17 nn P)) τ)) = Q
  refine Ret.start pm_122 rfl ?_
  have fr : frm σ σ (r + 12) (r + 20) := frm.rf
  refine Ev.aload_n rfl rfl ?_
  refine Ev.getf rfl rfl h_rd rfl ?_
  refine Ev.iconst (v := 0) rfl (by decide) ?_
  refine Ev.ialdN (k := 0) rfl h_nu (rfl : (0 : Int32) = nI 0) ⟨(by omega), by decide⟩ ?_
  refine Ev.istore_n rfl rfl rfl ?_
  refine Ev.aload_n rfl rfl ?_
  refine Ev.getf rfl rfl h_rd rfl ?_
  refine Ev.iconst (v := 1) rfl (by decide) ?_
  refine Ev.ialdN (k := 1) rfl h_nu (rfl : (1 : Int32) = nI 1) ⟨(by omega), by decide⟩ ?_
  refine Ev.istore_n rfl rfl rfl ?_
  refine Ev.aload_n rfl rfl ?_
  refine Ev.getf rfl rfl h_rd rfl ?_
  refine Ev.iconst (v := 2) rfl (by decide) ?_
  refine Ev.ialdN (k := 2) rfl h_nu (rfl : (2 : Int32) = nI 2) ⟨(by omega), by decide⟩ ?_
  refine Ev.istore rfl rfl rfl ?_
  refine Ev.iload_n rfl rfl ?_
  refine Ev.zne (tgt := 40) rfl (by decide) (fun c23 => ?_) (fun c23 => absurd c23 (by decide))
  refine Ev.iload_n rfl rfl ?_
  refine Ev.iconst (v := 1) rfl (by decide) ?_
  refine Ev.jne (tgt := 57) rfl (by decide) (fun c42 => ?_) (fun c42 => absurd c42 (by decide))
  refine Ev.iload_n rfl rfl ?_
  refine Ev.iconst (v := 2) rfl (by decide) ?_
  refine Ev.jne (tgt := 86) rfl (by decide) (fun c59 => ?_) (fun c59 => absurd c59 (by decide))
  refine Ev.iload_n rfl rfl ?_
  refine Ev.iconst (v := 3) rfl (by decide) ?_
  refine Ev.jne (tgt := 103) rfl (by decide) (fun c88 => ?_) (fun c88 => absurd c88 (by decide))
  refine Ev.iload_n rfl rfl ?_
  refine Ev.iconst (v := 4) rfl (by decide) ?_
  refine Ev.jeq (tgt := 113) rfl (by decide) (fun c105 => absurd c105 (by decide)) (fun c105 => ?_)
  refine Ev.iload_n rfl rfl ?_
  refine Ev.iconst (v := 5) rfl (by decide) ?_
  refine Ev.jne (tgt := 160) rfl (by decide) (fun c110 => ?_) (fun c110 => absurd c110 (by decide))
  refine Ev.iload_n rfl rfl ?_
  refine Ev.bipush (v := 6) rfl (by decide) ?_
  refine Ev.jne (tgt := 189) rfl (by decide) (fun c163 => ?_) (fun c163 => absurd c163 (by decide))
  refine Ev.iload_n rfl rfl ?_
  refine Ev.bipush (v := 7) rfl (by decide) ?_
  refine Ev.jne (tgt := 218) rfl (by decide) (fun c192 => ?_) (fun c192 => absurd c192 (by decide))
  refine Ev.iload_n rfl rfl ?_
  refine Ev.bipush (v := 8) rfl (by decide) ?_
  refine Ev.jlt (tgt := 248) rfl (by decide) (fun c221 => absurd c221 (by decide)) (fun c221 => ?_)
  refine Ev.iload_n rfl rfl ?_
  refine Ev.bipush (v := 15) rfl (by decide) ?_
  refine Ev.jge (tgt := 248) rfl (by decide) (fun c227 => ?_) (fun c227 => absurd c227 (by decide))
  refine Ev.iload_n rfl rfl ?_
  refine Ev.bipush (v := 20) rfl (by decide) ?_
  refine Ev.jne (tgt := 296) rfl (by decide) (fun c251 => ?_) (fun c251 => absurd c251 (by decide))
  refine Ev.iload_n rfl rfl ?_
  refine Ev.bipush (v := 15) rfl (by decide) ?_
  refine Ev.jlt (tgt := 328) rfl (by decide) (fun c299 => absurd c299 (by decide)) (fun c299 => ?_)
  refine Ev.iload_n rfl rfl ?_
  refine Ev.bipush (v := 20) rfl (by decide) ?_
  refine Ev.jge (tgt := 328) rfl (by decide) (fun c305 => absurd (by decide) c305) (fun c305 => ?_)
  refine Ev.aload_n rfl rfl ?_
  refine Ev.getf rfl rfl h_rd rfl ?_
  refine Ev.getf rfl rfl p0 rfl ?_
  refine Ev.bipush (v := 6) rfl (by decide) ?_
  refine Ev.jge (tgt := 328) rfl (by decide) (fun c317 => absurd (nI_lt (b := 6) h6 (by decide)) c317) (fun c317 => ?_)
  refine Ev.aload_n rfl rfl ?_
  refine Ev.iload_n rfl rfl ?_
  refine Ev.bipush (v := 15) rfl (by decide) ?_
  refine Ev.isub rfl ?_
  rw [show (17 : Int32) - (15 : Int32) = (2 : Int32) from by decide]
  refine Ev.xV1u rfl rfl h_rd rfl rfl (by decide) ⟨(Nat.le_refl _), (Nat.le_refl _)⟩ (tellC_2 h_rd h_nu hP h6 hnu) (fun τ700 f9 q9 => ?_)
  have fr := fr.step f9 (by omega) (by omega)
  refine Ev.ret rfl rfl (Nat.le_refl _) (Nat.le_refl _) ?_
  rw [← hQ]
  exact ⟨rfl, fr, q9⟩
theorem tell_18 {fa pl tk0 st0 en0 va0 si : Int32} (h_rd : σ.2 r = some (.inr (.inr (5, [.ref (r + 1), .ref (r + 12), .int fa, .int pl, .ref b, .int (nI n), .int tk0, .int st0, .int en0, .int va0, .ref (r + 20), .int si])))) {nu : Nat → Int32} (h_nu : σ.2 (r + 20) = some (.inl (0, 4, nu))) (hP : isP σ (r + 12) P) (h6 : P.1 < 6) {nn : Nat → Nat} (hnu : ∀ i, i < 3 → nu i = nI (nn i)) : RetX Γ m_Reader_tell [.ref r, .int 18] σ (r + 12) (r + 20) none (fun τ => isP τ (r + 12) (LnP 18 nn P)) := by
  obtain ⟨p0, ⟨fp, p1, p2⟩, p3⟩ := id hP
  unfold RetX
  generalize hQ : ((fun (r0 : Option Value) (τ : ex_S) => r0 = none ∧ frm σ τ (r + 12) (r + 20) ∧ (fun τ : ex_S => isP τ (r + 12) (LnP 18 nn P)) τ)) = Q
  refine Ret.start pm_122 rfl ?_
  have fr : frm σ σ (r + 12) (r + 20) := frm.rf
  refine Ev.aload_n rfl rfl ?_
  refine Ev.getf rfl rfl h_rd rfl ?_
  refine Ev.iconst (v := 0) rfl (by decide) ?_
  refine Ev.ialdN (k := 0) rfl h_nu (rfl : (0 : Int32) = nI 0) ⟨(by omega), by decide⟩ ?_
  refine Ev.istore_n rfl rfl rfl ?_
  refine Ev.aload_n rfl rfl ?_
  refine Ev.getf rfl rfl h_rd rfl ?_
  refine Ev.iconst (v := 1) rfl (by decide) ?_
  refine Ev.ialdN (k := 1) rfl h_nu (rfl : (1 : Int32) = nI 1) ⟨(by omega), by decide⟩ ?_
  refine Ev.istore_n rfl rfl rfl ?_
  refine Ev.aload_n rfl rfl ?_
  refine Ev.getf rfl rfl h_rd rfl ?_
  refine Ev.iconst (v := 2) rfl (by decide) ?_
  refine Ev.ialdN (k := 2) rfl h_nu (rfl : (2 : Int32) = nI 2) ⟨(by omega), by decide⟩ ?_
  refine Ev.istore rfl rfl rfl ?_
  refine Ev.iload_n rfl rfl ?_
  refine Ev.zne (tgt := 40) rfl (by decide) (fun c23 => ?_) (fun c23 => absurd c23 (by decide))
  refine Ev.iload_n rfl rfl ?_
  refine Ev.iconst (v := 1) rfl (by decide) ?_
  refine Ev.jne (tgt := 57) rfl (by decide) (fun c42 => ?_) (fun c42 => absurd c42 (by decide))
  refine Ev.iload_n rfl rfl ?_
  refine Ev.iconst (v := 2) rfl (by decide) ?_
  refine Ev.jne (tgt := 86) rfl (by decide) (fun c59 => ?_) (fun c59 => absurd c59 (by decide))
  refine Ev.iload_n rfl rfl ?_
  refine Ev.iconst (v := 3) rfl (by decide) ?_
  refine Ev.jne (tgt := 103) rfl (by decide) (fun c88 => ?_) (fun c88 => absurd c88 (by decide))
  refine Ev.iload_n rfl rfl ?_
  refine Ev.iconst (v := 4) rfl (by decide) ?_
  refine Ev.jeq (tgt := 113) rfl (by decide) (fun c105 => absurd c105 (by decide)) (fun c105 => ?_)
  refine Ev.iload_n rfl rfl ?_
  refine Ev.iconst (v := 5) rfl (by decide) ?_
  refine Ev.jne (tgt := 160) rfl (by decide) (fun c110 => ?_) (fun c110 => absurd c110 (by decide))
  refine Ev.iload_n rfl rfl ?_
  refine Ev.bipush (v := 6) rfl (by decide) ?_
  refine Ev.jne (tgt := 189) rfl (by decide) (fun c163 => ?_) (fun c163 => absurd c163 (by decide))
  refine Ev.iload_n rfl rfl ?_
  refine Ev.bipush (v := 7) rfl (by decide) ?_
  refine Ev.jne (tgt := 218) rfl (by decide) (fun c192 => ?_) (fun c192 => absurd c192 (by decide))
  refine Ev.iload_n rfl rfl ?_
  refine Ev.bipush (v := 8) rfl (by decide) ?_
  refine Ev.jlt (tgt := 248) rfl (by decide) (fun c221 => absurd c221 (by decide)) (fun c221 => ?_)
  refine Ev.iload_n rfl rfl ?_
  refine Ev.bipush (v := 15) rfl (by decide) ?_
  refine Ev.jge (tgt := 248) rfl (by decide) (fun c227 => ?_) (fun c227 => absurd c227 (by decide))
  refine Ev.iload_n rfl rfl ?_
  refine Ev.bipush (v := 20) rfl (by decide) ?_
  refine Ev.jne (tgt := 296) rfl (by decide) (fun c251 => ?_) (fun c251 => absurd c251 (by decide))
  refine Ev.iload_n rfl rfl ?_
  refine Ev.bipush (v := 15) rfl (by decide) ?_
  refine Ev.jlt (tgt := 328) rfl (by decide) (fun c299 => absurd c299 (by decide)) (fun c299 => ?_)
  refine Ev.iload_n rfl rfl ?_
  refine Ev.bipush (v := 20) rfl (by decide) ?_
  refine Ev.jge (tgt := 328) rfl (by decide) (fun c305 => absurd (by decide) c305) (fun c305 => ?_)
  refine Ev.aload_n rfl rfl ?_
  refine Ev.getf rfl rfl h_rd rfl ?_
  refine Ev.getf rfl rfl p0 rfl ?_
  refine Ev.bipush (v := 6) rfl (by decide) ?_
  refine Ev.jge (tgt := 328) rfl (by decide) (fun c317 => absurd (nI_lt (b := 6) h6 (by decide)) c317) (fun c317 => ?_)
  refine Ev.aload_n rfl rfl ?_
  refine Ev.iload_n rfl rfl ?_
  refine Ev.bipush (v := 15) rfl (by decide) ?_
  refine Ev.isub rfl ?_
  rw [show (18 : Int32) - (15 : Int32) = (3 : Int32) from by decide]
  refine Ev.xV1u rfl rfl h_rd rfl rfl (by decide) ⟨(Nat.le_refl _), (Nat.le_refl _)⟩ (tellC_3 h_rd h_nu hP h6 hnu) (fun τ700 f9 q9 => ?_)
  have fr := fr.step f9 (by omega) (by omega)
  refine Ev.ret rfl rfl (Nat.le_refl _) (Nat.le_refl _) ?_
  rw [← hQ]
  exact ⟨rfl, fr, q9⟩
theorem tell_19 {fa pl tk0 st0 en0 va0 si : Int32} (h_rd : σ.2 r = some (.inr (.inr (5, [.ref (r + 1), .ref (r + 12), .int fa, .int pl, .ref b, .int (nI n), .int tk0, .int st0, .int en0, .int va0, .ref (r + 20), .int si])))) {nu : Nat → Int32} (h_nu : σ.2 (r + 20) = some (.inl (0, 4, nu))) (hP : isP σ (r + 12) P) (h6 : P.1 < 6) {nn : Nat → Nat} (hnu : ∀ i, i < 3 → nu i = nI (nn i)) : RetX Γ m_Reader_tell [.ref r, .int 19] σ (r + 12) (r + 20) none (fun τ => isP τ (r + 12) (LnP 19 nn P)) := by
  obtain ⟨p0, ⟨fp, p1, p2⟩, p3⟩ := id hP
  unfold RetX
  generalize hQ : ((fun (r0 : Option Value) (τ : ex_S) => r0 = none ∧ frm σ τ (r + 12) (r + 20) ∧ (fun τ : ex_S => isP τ (r + 12) (LnP 19 nn P)) τ)) = Q
  refine Ret.start pm_122 rfl ?_
  have fr : frm σ σ (r + 12) (r + 20) := frm.rf
  refine Ev.aload_n rfl rfl ?_
  refine Ev.getf rfl rfl h_rd rfl ?_
  refine Ev.iconst (v := 0) rfl (by decide) ?_
  refine Ev.ialdN (k := 0) rfl h_nu (rfl : (0 : Int32) = nI 0) ⟨(by omega), by decide⟩ ?_
  refine Ev.istore_n rfl rfl rfl ?_
  refine Ev.aload_n rfl rfl ?_
  refine Ev.getf rfl rfl h_rd rfl ?_
  refine Ev.iconst (v := 1) rfl (by decide) ?_
  refine Ev.ialdN (k := 1) rfl h_nu (rfl : (1 : Int32) = nI 1) ⟨(by omega), by decide⟩ ?_
  refine Ev.istore_n rfl rfl rfl ?_
  refine Ev.aload_n rfl rfl ?_
  refine Ev.getf rfl rfl h_rd rfl ?_
  refine Ev.iconst (v := 2) rfl (by decide) ?_
  refine Ev.ialdN (k := 2) rfl h_nu (rfl : (2 : Int32) = nI 2) ⟨(by omega), by decide⟩ ?_
  refine Ev.istore rfl rfl rfl ?_
  refine Ev.iload_n rfl rfl ?_
  refine Ev.zne (tgt := 40) rfl (by decide) (fun c23 => ?_) (fun c23 => absurd c23 (by decide))
  refine Ev.iload_n rfl rfl ?_
  refine Ev.iconst (v := 1) rfl (by decide) ?_
  refine Ev.jne (tgt := 57) rfl (by decide) (fun c42 => ?_) (fun c42 => absurd c42 (by decide))
  refine Ev.iload_n rfl rfl ?_
  refine Ev.iconst (v := 2) rfl (by decide) ?_
  refine Ev.jne (tgt := 86) rfl (by decide) (fun c59 => ?_) (fun c59 => absurd c59 (by decide))
  refine Ev.iload_n rfl rfl ?_
  refine Ev.iconst (v := 3) rfl (by decide) ?_
  refine Ev.jne (tgt := 103) rfl (by decide) (fun c88 => ?_) (fun c88 => absurd c88 (by decide))
  refine Ev.iload_n rfl rfl ?_
  refine Ev.iconst (v := 4) rfl (by decide) ?_
  refine Ev.jeq (tgt := 113) rfl (by decide) (fun c105 => absurd c105 (by decide)) (fun c105 => ?_)
  refine Ev.iload_n rfl rfl ?_
  refine Ev.iconst (v := 5) rfl (by decide) ?_
  refine Ev.jne (tgt := 160) rfl (by decide) (fun c110 => ?_) (fun c110 => absurd c110 (by decide))
  refine Ev.iload_n rfl rfl ?_
  refine Ev.bipush (v := 6) rfl (by decide) ?_
  refine Ev.jne (tgt := 189) rfl (by decide) (fun c163 => ?_) (fun c163 => absurd c163 (by decide))
  refine Ev.iload_n rfl rfl ?_
  refine Ev.bipush (v := 7) rfl (by decide) ?_
  refine Ev.jne (tgt := 218) rfl (by decide) (fun c192 => ?_) (fun c192 => absurd c192 (by decide))
  refine Ev.iload_n rfl rfl ?_
  refine Ev.bipush (v := 8) rfl (by decide) ?_
  refine Ev.jlt (tgt := 248) rfl (by decide) (fun c221 => absurd c221 (by decide)) (fun c221 => ?_)
  refine Ev.iload_n rfl rfl ?_
  refine Ev.bipush (v := 15) rfl (by decide) ?_
  refine Ev.jge (tgt := 248) rfl (by decide) (fun c227 => ?_) (fun c227 => absurd c227 (by decide))
  refine Ev.iload_n rfl rfl ?_
  refine Ev.bipush (v := 20) rfl (by decide) ?_
  refine Ev.jne (tgt := 296) rfl (by decide) (fun c251 => ?_) (fun c251 => absurd c251 (by decide))
  refine Ev.iload_n rfl rfl ?_
  refine Ev.bipush (v := 15) rfl (by decide) ?_
  refine Ev.jlt (tgt := 328) rfl (by decide) (fun c299 => absurd c299 (by decide)) (fun c299 => ?_)
  refine Ev.iload_n rfl rfl ?_
  refine Ev.bipush (v := 20) rfl (by decide) ?_
  refine Ev.jge (tgt := 328) rfl (by decide) (fun c305 => absurd (by decide) c305) (fun c305 => ?_)
  refine Ev.aload_n rfl rfl ?_
  refine Ev.getf rfl rfl h_rd rfl ?_
  refine Ev.getf rfl rfl p0 rfl ?_
  refine Ev.bipush (v := 6) rfl (by decide) ?_
  refine Ev.jge (tgt := 328) rfl (by decide) (fun c317 => absurd (nI_lt (b := 6) h6 (by decide)) c317) (fun c317 => ?_)
  refine Ev.aload_n rfl rfl ?_
  refine Ev.iload_n rfl rfl ?_
  refine Ev.bipush (v := 15) rfl (by decide) ?_
  refine Ev.isub rfl ?_
  rw [show (19 : Int32) - (15 : Int32) = (4 : Int32) from by decide]
  refine Ev.xV1u rfl rfl h_rd rfl rfl (by decide) ⟨(Nat.le_refl _), (Nat.le_refl _)⟩ (tellC_4 h_rd h_nu hP h6 hnu) (fun τ700 f9 q9 => ?_)
  have fr := fr.step f9 (by omega) (by omega)
  refine Ev.ret rfl rfl (Nat.le_refl _) (Nat.le_refl _) ?_
  rw [← hQ]
  exact ⟨rfl, fr, q9⟩
theorem tell_20 {fa pl tk0 st0 en0 va0 si : Int32} (h_rd : σ.2 r = some (.inr (.inr (5, [.ref (r + 1), .ref (r + 12), .int fa, .int pl, .ref b, .int (nI n), .int tk0, .int st0, .int en0, .int va0, .ref (r + 20), .int si])))) {nu : Nat → Int32} (h_nu : σ.2 (r + 20) = some (.inl (0, 4, nu))) (hP : isP σ (r + 12) P) (h1 : 0 < P.1) (h6 : P.1 ≤ 6) : RetX Γ m_Reader_tell [.ref r, .int 20] σ (r + 12) (r + 20) none (fun τ => isP τ (r + 12) (LnQ si P)) := by
  obtain ⟨p0, ⟨fp, p1, p2⟩, p3⟩ := id hP
  have hle : σ.2 (r + 12 + 2 + (P.1 - 1)) = some (.inr (.inr (4, [(.int (P.2 (P.1 - 1) 0)), (.int (P.2 (P.1 - 1) 1)), (.int (P.2 (P.1 - 1) 2)), (.int (P.2 (P.1 - 1) 3)), (.int (P.2 (P.1 - 1) 4)), (.int (P.2 (P.1 - 1) 5))]))) := p3 (P.1 - 1) (by omega)
  have ot : ∀ k, k < 6 → k ≠ P.1 - 1 → isL σ (r + 12 + 2 + k) (P.2 k) := fun k hk _ => p3 k hk
  unfold RetX
  generalize hQ : ((fun (r0 : Option Value) (τ : ex_S) => r0 = none ∧ frm σ τ (r + 12) (r + 20) ∧ (fun τ : ex_S => isP τ (r + 12) (LnQ si P)) τ)) = Q
  refine Ret.start pm_122 rfl ?_
  have fr : frm σ σ (r + 12) (r + 20) := frm.rf
  refine Ev.aload_n rfl rfl ?_
  refine Ev.getf rfl rfl h_rd rfl ?_
  refine Ev.iconst (v := 0) rfl (by decide) ?_
  refine Ev.ialdN (k := 0) rfl h_nu (rfl : (0 : Int32) = nI 0) ⟨(by omega), by decide⟩ ?_
  refine Ev.istore_n rfl rfl rfl ?_
  refine Ev.aload_n rfl rfl ?_
  refine Ev.getf rfl rfl h_rd rfl ?_
  refine Ev.iconst (v := 1) rfl (by decide) ?_
  refine Ev.ialdN (k := 1) rfl h_nu (rfl : (1 : Int32) = nI 1) ⟨(by omega), by decide⟩ ?_
  refine Ev.istore_n rfl rfl rfl ?_
  refine Ev.aload_n rfl rfl ?_
  refine Ev.getf rfl rfl h_rd rfl ?_
  refine Ev.iconst (v := 2) rfl (by decide) ?_
  refine Ev.ialdN (k := 2) rfl h_nu (rfl : (2 : Int32) = nI 2) ⟨(by omega), by decide⟩ ?_
  refine Ev.istore rfl rfl rfl ?_
  refine Ev.iload_n rfl rfl ?_
  refine Ev.zne (tgt := 40) rfl (by decide) (fun c23 => ?_) (fun c23 => absurd c23 (by decide))
  refine Ev.iload_n rfl rfl ?_
  refine Ev.iconst (v := 1) rfl (by decide) ?_
  refine Ev.jne (tgt := 57) rfl (by decide) (fun c42 => ?_) (fun c42 => absurd c42 (by decide))
  refine Ev.iload_n rfl rfl ?_
  refine Ev.iconst (v := 2) rfl (by decide) ?_
  refine Ev.jne (tgt := 86) rfl (by decide) (fun c59 => ?_) (fun c59 => absurd c59 (by decide))
  refine Ev.iload_n rfl rfl ?_
  refine Ev.iconst (v := 3) rfl (by decide) ?_
  refine Ev.jne (tgt := 103) rfl (by decide) (fun c88 => ?_) (fun c88 => absurd c88 (by decide))
  refine Ev.iload_n rfl rfl ?_
  refine Ev.iconst (v := 4) rfl (by decide) ?_
  refine Ev.jeq (tgt := 113) rfl (by decide) (fun c105 => absurd c105 (by decide)) (fun c105 => ?_)
  refine Ev.iload_n rfl rfl ?_
  refine Ev.iconst (v := 5) rfl (by decide) ?_
  refine Ev.jne (tgt := 160) rfl (by decide) (fun c110 => ?_) (fun c110 => absurd c110 (by decide))
  refine Ev.iload_n rfl rfl ?_
  refine Ev.bipush (v := 6) rfl (by decide) ?_
  refine Ev.jne (tgt := 189) rfl (by decide) (fun c163 => ?_) (fun c163 => absurd c163 (by decide))
  refine Ev.iload_n rfl rfl ?_
  refine Ev.bipush (v := 7) rfl (by decide) ?_
  refine Ev.jne (tgt := 218) rfl (by decide) (fun c192 => ?_) (fun c192 => absurd c192 (by decide))
  refine Ev.iload_n rfl rfl ?_
  refine Ev.bipush (v := 8) rfl (by decide) ?_
  refine Ev.jlt (tgt := 248) rfl (by decide) (fun c221 => absurd c221 (by decide)) (fun c221 => ?_)
  refine Ev.iload_n rfl rfl ?_
  refine Ev.bipush (v := 15) rfl (by decide) ?_
  refine Ev.jge (tgt := 248) rfl (by decide) (fun c227 => ?_) (fun c227 => absurd c227 (by decide))
  refine Ev.iload_n rfl rfl ?_
  refine Ev.bipush (v := 20) rfl (by decide) ?_
  refine Ev.jne (tgt := 296) rfl (by decide) (fun c251 => absurd (by decide) c251) (fun c251 => ?_)
  refine Ev.aload_n rfl rfl ?_
  refine Ev.getf rfl rfl h_rd rfl ?_
  refine Ev.getf rfl rfl p0 rfl ?_
  refine Ev.zle (tgt := 296) rfl (by decide) (fun c261 => absurd (nI_lt (a := 0) h1 (by omega)) c261) (fun c261 => ?_)
  refine Ev.aload_n rfl rfl ?_
  refine Ev.getf rfl rfl h_rd rfl ?_
  refine Ev.getf rfl rfl p0 rfl ?_
  refine Ev.aload_n rfl rfl ?_
  refine Ev.getf rfl rfl h_rd rfl ?_
  refine Ev.getf rfl rfl p0 rfl ?_
  refine Ev.iconst (v := 1) rfl (by decide) ?_
  refine Ev.isub rfl ?_
  refine Ev.aaldN (k := P.1 - 1) rfl p1 rfl (nq_sub (a := P.1) (b := 1) rfl (rfl : (1 : Int32) = nI 1) (by omega)) ⟨(by omega), by decide⟩ (p2 (P.1 - 1) (by omega)) ?_
  refine Ev.dup rfl rfl ?_
  refine Ev.getf rfl rfl hle rfl ?_
  refine Ev.aload_n rfl rfl ?_
  refine Ev.getf rfl rfl h_rd rfl ?_
  refine Ev.ior rfl ?_
  refine Ev.putE rfl rfl hle rfl rfl rfl (Nat.le_of_ble_eq_true rfl) (fun τ1 f1 hle => ?_)
  replace hle : τ1.2 (r + 12 + 2 + (P.1 - 1)) = some (.inr (.inr (4, [(.int (P.2 (P.1 - 1) 0)), (.int (P.2 (P.1 - 1) 1)), (.int (P.2 (P.1 - 1) 2)), (.int (P.2 (P.1 - 1) 3)), (.int (P.2 (P.1 - 1) 4)), (.int ((P.2 (P.1 - 1) 5) ||| si))]))) := hle
  have h_rd := frm.cell f1 h_rd (by omega)
  have h_nu := frm.cell f1 h_nu (by omega)
  have p0 := frm.cell f1 p0 (by omega)
  have p1 := frm.cell f1 p1 (by omega)
  have ot := fun k k1 k2 => (ot k k1 k2).frm f1 (by omega)
  have fr := fr.step f1 (by omega) (by omega)
  refine Ev.goto (tgt := 328) rfl (by decide) ?_
  refine Ev.ret rfl rfl (Nat.le_refl _) (Nat.le_refl _) ?_
  rw [← hQ]
  refine ⟨rfl, fr, p0, ⟨fp, p1, p2⟩, fun k hk => ?_⟩
  by_cases e : k + 1 = P.1
  · show isL _ _ (if k + 1 = P.1 then _ else _)
    rw [if_pos e]
    have e2 : k = P.1 - 1 := by omega
    subst e2
    exact hle
  · show isL _ _ (if k + 1 = P.1 then _ else P.2 k)
    rw [if_neg e]
    exact ot k hk (by omega)
theorem tell_p {fa pl tk0 st0 en0 va0 si : Int32} (h_rd : σ.2 r = some (.inr (.inr (5, [.ref (r + 1), .ref (r + 12), .int fa, .int pl, .ref b, .int (nI n), .int tk0, .int st0, .int en0, .int va0, .ref (r + 20), .int si])))) {nu : Nat → Int32} (h_nu : σ.2 (r + 20) = some (.inl (0, 4, nu))) (hP : isP σ (r + 12) P) (h6 : P.1 < 6) {nn : Nat → Nat} {k : Nat} (hk : 15 ≤ k ∧ k < 20) (hnu : ∀ i, i < NUl.getD k 0 → nu i = nI (nn i)) : RetX Γ m_Reader_tell [.ref r, .int (nI k)] σ (r + 12) (r + 20) none (fun τ => isP τ (r + 12) (LnP k nn P)) := by
  obtain ⟨q, rfl⟩ : ∃ q, k = 15 + q := ⟨k - 15, by omega⟩
  have hq : q < 5 := by omega
  match q, hq with
  | 0, _ => exact tell_15 h_rd h_nu hP h6 hnu
  | 1, _ => exact tell_16 h_rd h_nu hP h6 hnu
  | 2, _ => exact tell_17 h_rd h_nu hP h6 hnu
  | 3, _ => exact tell_18 h_rd h_nu hP h6 hnu
  | 4, _ => exact tell_19 h_rd h_nu hP h6 hnu
end
/-- the word at a token, found in a text of words (M of them, W: their numbers) -/
theorem wrd_y {Γ : ex_G} {U : Nat → Nat} {n e j N M i : Nat} {B W : Nat → Nat} (ht : txt U n) (he : e ≤ n) (hw : wtx Γ j N B) (h1 : ∀ q, q < N → B q = 32 → wvl B (wfi B q) (q - wfi B q) = wcs.getD (W (wci B q)) 0 ∧ wci B q < M ∧ q - wfi B q ≤ 7) (h2 : ∀ i, i < M → ∃ q, q < N ∧ B q = 32 ∧ wci B q = i) (hW : ∀ i, i < M → 1 ≤ W i ∧ W i ≤ 20) (hinj : ∀ i k, i < M → k < M → W i = W k → i = k) (hi : i < M) (hT : tW U n e = W i) : (∀ q, q < N → B q = 32 → wvl U (tS0 U n e) (tL U n e - tS0 U n e) = wvl B (wfi B q) (q - wfi B q) → nI i = nI (wci B q)) ∧ ((∀ q, q < N → B q = 32 → ¬ wvl U (tS0 U n e) (tL U n e - tS0 U n e) = wvl B (wfi B q) (q - wfi B q)) → nI i = -1) := by
  have hV : wvl U (tS0 U n e) (tL U n e - tS0 U n e) = wcs.getD (W i) 0 := by
    unfold tW at hT
    by_cases c : tL U n e - tS0 U n e ≤ 7
    · rw [if_pos c] at hT
      exact (wdc_iff (hW i hi).1 (hW i hi).2).mp hT
    · rw [if_neg c] at hT
      have := (hW i hi).2
      omega
  refine ⟨fun q hq hb hm => ?_, fun hno => ?_⟩
  · obtain ⟨a1, a2, _⟩ := h1 q hq hb
    rw [hV, a1] at hm
    have b1 := hW _ a2
    have c1 := (wdc_iff b1.1 b1.2).mpr hm
    have c2 := (wdc_iff (hW i hi).1 (hW i hi).2).mpr (rfl : wcs.getD (W i) 0 = wcs.getD (W i) 0)
    exact congrArg nI (hinj i _ hi a2 (c2.symm.trans c1))
  · obtain ⟨q, q1, q2, q3⟩ := h2 i hi
    have a1 := (h1 q q1 q2).1
    rw [q3] at a1
    exact absurd (hV.trans a1.symm) (hno q q1 q2)
theorem wrd_n {Γ : ex_G} {U : Nat → Nat} {n e j N M : Nat} {B W : Nat → Nat} (ht : txt U n) (he : e ≤ n) (hl : ltr (U (tS0 U n e)) = true) (hw : wtx Γ j N B) (h1 : ∀ q, q < N → B q = 32 → wvl B (wfi B q) (q - wfi B q) = wcs.getD (W (wci B q)) 0 ∧ wci B q < M ∧ q - wfi B q ≤ 7) (hW : ∀ i, i < M → 1 ≤ W i ∧ W i ≤ 20) (hT : ∀ i, i < M → ¬ tW U n e = W i) : (∀ q, q < N → B q = 32 → wvl U (tS0 U n e) (tL U n e - tS0 U n e) = wvl B (wfi B q) (q - wfi B q) → (-1 : Int32) = nI (wci B q)) ∧ ((∀ q, q < N → B q = 32 → ¬ wvl U (tS0 U n e) (tL U n e - tS0 U n e) = wvl B (wfi B q) (q - wfi B q)) → (-1 : Int32) = -1) := by
  refine ⟨fun q hq hb hm => ?_, fun _ => rfl⟩
  exfalso
  obtain ⟨a1, a2, a3⟩ := h1 q hq hb
  obtain ⟨l1, l2, l3, -⟩ := tL_sp ht he
  have hB := hw.2.2.2.2.2.2 q hq hb
  have hlen := (wvl_inj (U := U) (B := B) (s := tS0 U n e) (f := wfi B q) _ _ (fun i hi => by have := ltr_iff.mp (l3 (tS0 U n e + i) (by omega) (by omega)); omega) (fun i hi => by have := hB.2 (wfi B q + i) (by omega) (by omega); omega) hm).1
  refine hT _ a2 ?_
  unfold tW
  rw [if_pos (by omega)]
  have b1 := hW _ a2
  exact (wdc_iff b1.1 b1.2).mpr (hm.trans a1)
def wdS : List Nat := [108, 101, 97, 114, 110, 101, 114, 32, 99, 111, 117, 112, 108, 101, 32, 112, 101, 114, 104, 97, 112, 115, 32, 116, 101, 97, 99, 104, 101, 114, 32, 97, 98, 111, 118, 101, 32, 98, 101, 108, 111, 119, 32, 99, 114, 111, 119, 100, 32, 115, 105, 122, 101, 32, 114, 111, 111, 109, 115, 32, 99, 111, 115, 116, 32, 102, 101, 101, 32, 119, 101, 101, 107, 115, 32, 114, 105, 115, 101, 32, 116, 101, 108, 108, 32, 108, 111, 110, 103, 32]
def wdP : List Nat := [101, 118, 101, 110, 32, 116, 119, 111, 32, 98, 114, 111, 97, 100, 32, 108, 111, 110, 103, 32, 112, 97, 105, 114, 115, 32, 115, 105, 116, 115, 32]
def wnS (i : Nat) : Nat := i + 1
def wnP (i : Nat) : Nat := [16, 19, 17, 15, 18, 20].getD i 0
theorem wdS_1 : ∀ q, q < 90 → (fun k => wdS.getD k 0) q = 32 → wvl (fun k => wdS.getD k 0) (wfi (fun k => wdS.getD k 0) q) (q - wfi (fun k => wdS.getD k 0) q) = wcs.getD (wnS (wci (fun k => wdS.getD k 0) q)) 0 ∧ wci (fun k => wdS.getD k 0) q < 15 ∧ q - wfi (fun k => wdS.getD k 0) q ≤ 7 := by decide +kernel
theorem wdS_2 : ∀ i, i < 15 → ∃ q, q < 90 ∧ (fun k => wdS.getD k 0) q = 32 ∧ wci (fun k => wdS.getD k 0) q = i := by
  have h : ∀ i, i < 15 → [7, 14, 22, 30, 36, 42, 48, 53, 59, 64, 68, 74, 79, 84, 89].getD i 0 < 90 ∧ (fun k => wdS.getD k 0) ([7, 14, 22, 30, 36, 42, 48, 53, 59, 64, 68, 74, 79, 84, 89].getD i 0) = 32 ∧ wci (fun k => wdS.getD k 0) ([7, 14, 22, 30, 36, 42, 48, 53, 59, 64, 68, 74, 79, 84, 89].getD i 0) = i := by decide +kernel
  exact fun i hi => ⟨_, h i hi⟩
theorem wdP_1 : ∀ q, q < 31 → (fun k => wdP.getD k 0) q = 32 → wvl (fun k => wdP.getD k 0) (wfi (fun k => wdP.getD k 0) q) (q - wfi (fun k => wdP.getD k 0) q) = wcs.getD (wnP (wci (fun k => wdP.getD k 0) q)) 0 ∧ wci (fun k => wdP.getD k 0) q < 6 ∧ q - wfi (fun k => wdP.getD k 0) q ≤ 7 := by decide +kernel
theorem wdP_2 : ∀ i, i < 6 → ∃ q, q < 31 ∧ (fun k => wdP.getD k 0) q = 32 ∧ wci (fun k => wdP.getD k 0) q = i := by
  have h : ∀ i, i < 6 → [4, 8, 14, 19, 25, 30].getD i 0 < 31 ∧ (fun k => wdP.getD k 0) ([4, 8, 14, 19, 25, 30].getD i 0) = 32 ∧ wci (fun k => wdP.getD k 0) ([4, 8, 14, 19, 25, 30].getD i 0) = i := by decide +kernel
  exact fun i hi => ⟨_, h i hi⟩
theorem wnS_r : ∀ i, i < 15 → 1 ≤ wnS i ∧ wnS i ≤ 20 := fun i hi => ⟨by unfold wnS; omega, by unfold wnS; omega⟩
theorem wnS_i : ∀ i k, i < 15 → k < 15 → wnS i = wnS k → i = k := fun i k _ _ h => by unfold wnS at h; omega
theorem wnP_r : ∀ i, i < 6 → 1 ≤ wnP i ∧ wnP i ≤ 20 := by decide
theorem wnP_i : ∀ i k, i < 6 → k < 6 → wnP i = wnP k → i = k := by
  have h : ∀ i, i < 6 → ∀ k, k < 6 → wnP i = wnP k → i = k := by decide
  exact fun i k hi hk => h i hi k hk
end
