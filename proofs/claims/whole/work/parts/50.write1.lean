/-! What stays when cells are written; end, sit on both sides. -/
noncomputable section
def RetB (Γ : ex_G) (z : Nat) (as : List Value) (σ : ex_S) (v : Value) (σ1 : ex_S) : Prop := Ret Γ z 0 0 as σ (fun r σ' => r = some v ∧ σ' = σ1)
/-- nothing has changed but between lo and hi -/
def frm (σ τ : ex_S) (lo hi : Nat) : Prop := τ.1 = σ.1 ∧ ∀ q, q < lo ∨ hi ≤ q → τ.2 q = σ.2 q
theorem frm.rf {σ : ex_S} {lo hi : Nat} : frm σ σ lo hi := ⟨rfl, fun _ _ => rfl⟩
theorem frm.put {σ τ : ex_S} {lo hi a : Nat} {e : ex_E} (h : frm σ τ lo hi) (h1 : lo ≤ a) (h2 : a < hi) : frm σ (ex_put τ a e) lo hi := ⟨h.1, fun q hq => by rw [ex_put_ne (by omega)]; exact h.2 q hq⟩
theorem frm.trans {σ τ υ : ex_S} {lo hi : Nat} (h : frm σ τ lo hi) (h2 : frm τ υ lo hi) : frm σ υ lo hi := ⟨h2.1.trans h.1, fun q hq => (h2.2 q hq).trans (h.2 q hq)⟩
theorem frm.mono {σ τ : ex_S} {lo hi lo' hi' : Nat} (h : frm σ τ lo hi) (h1 : lo' ≤ lo) (h2 : hi ≤ hi') : frm σ τ lo' hi' := ⟨h.1, fun q hq => h.2 q (by omega)⟩
theorem isL.frm {σ τ : ex_S} {lo hi c : Nat} {C : Les} (h : isL σ c C) (hf : frm σ τ lo hi) (hc : c < lo ∨ hi ≤ c) : isL τ c C := by
  unfold isL at *
  rw [hf.2 c hc]
  exact h
theorem isS.frm {σ τ : ex_S} {lo hi a : Nat} {S : Sch} (h : isS σ a S) (hf : frm σ τ lo hi) (hc : a + 11 ≤ lo ∨ hi ≤ a) : isS τ a S := by
  obtain ⟨h0, h1, h2, h3, h4, h5, h6, h7, h8, h9, h10⟩ := h
  refine ⟨?_, ?_, ?_, ?_, ?_, ?_, ?_, ?_, ?_, ?_, ?_⟩ <;> (rw [hf.2 _ (by omega)]; assumption)
theorem isP.frm {σ τ : ex_S} {lo hi p : Nat} {P : Pln} (h : isP σ p P) (hf : frm σ τ lo hi) (hc : p + 8 ≤ lo ∨ hi ≤ p) : isP τ p P := by
  obtain ⟨h0, ⟨f, h1, h2⟩, h3⟩ := h
  exact ⟨by rw [hf.2 _ (by omega)]; exact h0, ⟨f, by rw [hf.2 _ (by omega)]; exact h1, h2⟩, fun k hk => (h3 k hk).frm hf (by omega)⟩
theorem isT.frm {σ τ : ex_S} {lo hi q : Nat} {T : Tol} (h : isT σ q T) (hf : frm σ τ lo hi) (hc : q + 61 ≤ lo ∨ hi ≤ q) : isT τ q T := by
  obtain ⟨h0, h1, ⟨f, h2, h3⟩, ⟨g, h4, h5⟩, h6, h7⟩ := h
  exact ⟨by rw [hf.2 _ (by omega)]; exact h0, by rw [hf.2 _ (by omega)]; exact h1, ⟨f, by rw [hf.2 _ (by omega)]; exact h2, h3⟩, ⟨g, by rw [hf.2 _ (by omega)]; exact h4, h5⟩, fun k hk => (h6 k hk).frm hf (by omega), fun k hk => (h7 k hk).frm hf (by omega)⟩
theorem isX.frm {σ τ : ex_S} {lo hi x : Nat} (h : isX σ x) (hf : frm σ τ lo hi) (hc : x < lo ∨ hi ≤ x) : isX τ x := by
  unfold isX at *
  rw [hf.2 x hc]
  exact h
theorem isM.frm {σ τ : ex_S} {lo hi y : Nat} {g A : Nat → Int32} (h : isM σ y g A) (hf : frm σ τ lo hi) (hc : y + 17 ≤ lo ∨ hi ≤ y) : isM τ y g A :=
  ⟨by rw [hf.2 _ (by omega)]; exact h.1, by rw [hf.2 _ (by omega)]; exact h.2⟩
/-- the tape cut to n bytes -/
def T_end (T : Tol) (n : Nat) : Tol := (n, tF T, tQ T, tSn T, tPn T, tB T, tS T, tP T)
def e_end (σ : ex_S) (q : Nat) (T : Tol) (n : Nat) : ex_S := ex_put σ q (.inr (.inr (1, [.ref (q + 1), .int (nI n), .int (tF T), .int (tQ T), .ref (q + 2), .int (nI (tSn T)), .ref (q + 3), .int (nI (tPn T))])))
theorem end_isT {σ : ex_S} {q : Nat} {T : Tol} (h : isT σ q T) (n : Nat) : isT (e_end σ q T n) q (T_end T n) := by
  obtain ⟨h0, h1, ⟨f, h2, h3⟩, ⟨g, h4, h5⟩, h6, h7⟩ := h
  have hf : frm σ (e_end σ q T n) q (q + 1) := frm.rf.put (Nat.le_refl _) (by omega)
  exact ⟨ex_put_eq, by rw [hf.2 _ (by omega)]; exact h1, ⟨f, by rw [hf.2 _ (by omega)]; exact h2, h3⟩, ⟨g, by rw [hf.2 _ (by omega)]; exact h4, h5⟩, fun k hk => (h6 k hk).frm hf (by omega), fun k hk => (h7 k hk).frm hf (by omega)⟩
theorem end_mT {A : Nat → Int32} {T : Tol} (h : mT A 0 T) (n : Nat) : mT (upd A 2 (nI n)) 0 (T_end T n) := by
  obtain ⟨h0, h1, h2, h3, h4, h5, h6, h7⟩ := h
  have e : ∀ k, k ≠ 2 → upd A 2 (nI n) k = A k := fun k hk => pk_un hk
  have hS : ∀ k, k < tSn T → mS (upd A 2 (nI n)) (0 + 610 + 120 * k) (tS T k) := fun k hk => by
    obtain ⟨a, b, c, d, f, g⟩ := h6 k hk
    refine ⟨by rw [e _ (by omega)]; exact a, by rw [e _ (by omega)]; exact b, fun j hj => by rw [e _ (by omega)]; exact c j hj, fun i hi => ?_, fun i hi => ?_, fun i hi => ?_⟩
    · obtain ⟨q1, q2, q3, q4, q5⟩ := d i hi
      exact ⟨by rw [e _ (by omega)]; exact q1, by rw [e _ (by omega)]; exact q2, by rw [e _ (by omega)]; exact q3, by rw [e _ (by omega)]; exact q4, by rw [e _ (by omega)]; exact q5⟩
    · obtain ⟨q1, q2⟩ := f i hi
      exact ⟨by rw [e _ (by omega)]; exact q1, by rw [e _ (by omega)]; exact q2⟩
    · obtain ⟨q1, q2⟩ := g i hi
      exact ⟨by rw [e _ (by omega)]; exact q1, by rw [e _ (by omega)]; exact q2⟩
  refine ⟨by rw [e _ (by omega)]; exact h0, by rw [e _ (by omega)]; exact h1, pk_us, by rw [e _ (by omega)]; exact h3, by rw [e _ (by omega)]; exact h4, fun i hi => by rw [e _ (by omega)]; exact h5 i hi, hS, fun k hk => ?_⟩
  obtain ⟨a, b⟩ := h7 k hk
  exact ⟨by rw [e _ (by omega)]; exact a, fun j hj q hq => by rw [e _ (by omega)]; exact b j hj q hq⟩
theorem end_wT {T : Tol} (h : wT T) {n : Nat} (hn : n ≤ tN T) : wT (T_end T n) := ⟨Nat.le_trans hn h.1, h.2⟩
section
variable {Γ : ex_G} {σ : ex_S} {x q a p y : Nat} {S : Sch} {T : Tol} {P : Pln} {g A : Nat → Int32}
theorem end_yes (hX : isX σ x) (hT : isT σ (x + 1) T) (hw : wT T) {n : Nat} (hn : n ≤ tN T) : RetB Γ m_SD_end [.ref x, .int (nI n)] σ (.int (nI n)) (e_end σ (x + 1) T n) := by
  unfold isX at hX
  obtain ⟨t0, t1, ⟨fs, t2, t3⟩, ⟨fp, t4, t5⟩, t6, t7⟩ := id hT
  unfold RetB
  generalize hQ : (fun (r : Option Value) (σ' : ex_S) => r = some ((.int (nI n)) : Value) ∧ σ' = e_end σ (x + 1) T n) = Q
  refine Ret.start pm_3 rfl ?_
  have hw0 := hw.1
  refine Ev.iload_n rfl rfl ?_
  refine Ev.if_lt (tgt := 15) rfl (by decide) (fun c1 => absurd c1 (nI_pos (by omega))) (fun c1 => ?_)
  refine Ev.iload_n rfl rfl ?_
  refine Ev.aload_n rfl rfl ?_
  refine Ev.getf rfl rfl (by assumption) rfl ?_
  refine Ev.getf rfl rfl (by assumption) rfl ?_
  refine Ev.icmp_le (tgt := 17) rfl (by decide) (fun c12 => ?_) (fun c12 => absurd (nI_le hn (by omega)) c12)
  refine Ev.aload_n rfl rfl ?_
  refine Ev.getf rfl rfl (by assumption) rfl ?_
  refine Ev.iload_n rfl rfl ?_
  refine Ev.putf rfl rfl (by assumption) rfl rfl rfl (Nat.le_of_ble_eq_true rfl) ?_
  refine Ev.iload_n rfl rfl ?_
  refine Ev.iret (ty := .int) rfl rfl rfl (Nat.le_refl _) (Nat.le_refl _) ?_
  rw [← hQ]
  exact ⟨rfl, rfl⟩
theorem end_no (hX : isX σ x) (hT : isT σ (x + 1) T) (hw : wT T) {n : Int32} (hn : n < 0 ∨ nI (tN T) < n) : RetV Γ m_SD_end [.ref x, .int n] σ (.int (-1)) := by
  unfold isX at hX
  obtain ⟨t0, t1, ⟨fs, t2, t3⟩, ⟨fp, t4, t5⟩, t6, t7⟩ := id hT
  unfold RetV
  generalize hQ : (fun (r : Option Value) (σ' : ex_S) => r = some ((.int (-1)) : Value) ∧ σ' = σ) = Q
  refine Ret.start pm_3 rfl ?_
  refine Ev.iload_n rfl rfl ?_
  refine Ev.if_lt (tgt := 15) rfl (by decide) (fun c1 => ?_) (fun c1 => ?_)
  · skip
    refine Ev.iconst (v := (-1)) rfl (by decide) ?_
    refine Ev.iret (ty := .int) rfl rfl rfl (Nat.le_refl _) (Nat.le_refl _) ?_
    rw [← hQ]
    exact ⟨rfl, rfl⟩
  · skip
    refine Ev.iload_n rfl rfl ?_
    refine Ev.aload_n rfl rfl ?_
    refine Ev.getf rfl rfl (by assumption) rfl ?_
    refine Ev.getf rfl rfl (by assumption) rfl ?_
    refine Ev.icmp_le (tgt := 17) rfl (by decide) (fun c12 => absurd hn (by rintro (h | h); exact c1 h; exact gt_le.mpr h c12)) (fun c12 => ?_)
    refine Ev.iconst (v := (-1)) rfl (by decide) ?_
    refine Ev.iret (ty := .int) rfl rfl rfl (Nat.le_refl _) (Nat.le_refl _) ?_
    rw [← hQ]
    exact ⟨rfl, rfl⟩
theorem m_end_yes (hM : isM σ y g A) (hT : mT A 0 T) (hw : wT T) {n : Nat} (hn : n ≤ tN T) : RetB Γ m_M_end [.ref y, .int (nI n)] σ (.int (nI n)) (ex_put σ (y + 1) (.inl (0, 4500, upd A 2 (nI n)))) := by
  obtain ⟨m0, m1⟩ := id hM
  unfold RetB
  generalize hQ : (fun (r : Option Value) (σ' : ex_S) => r = some ((.int (nI n)) : Value) ∧ σ' = ex_put σ (y + 1) (.inl (0, 4500, upd A 2 (nI n)))) = Q
  refine Ret.start pm_165 rfl ?_
  have hw0 := hw.1
  have a2 : A 2 = nI (tN T) := by simpa using hT.2.2.1
  refine Ev.iload_n rfl rfl ?_
  refine Ev.if_lt (tgt := 14) rfl (by decide) (fun c1 => absurd c1 (nI_pos (by omega))) (fun c1 => ?_)
  refine Ev.iload_n rfl rfl ?_
  refine Ev.aload_n rfl rfl ?_
  refine Ev.getf rfl rfl (by assumption) rfl ?_
  refine Ev.iconst (v := 2) rfl (by decide) ?_
  refine Ev.ialdN (k := 2) rfl (by assumption) (by decide) ⟨(by decide), by decide⟩ ?_
  rw [a2]
  refine Ev.icmp_le (tgt := 16) rfl (by decide) (fun c11 => ?_) (fun c11 => absurd (nI_le hn (by omega)) c11)
  refine Ev.aload_n rfl rfl ?_
  refine Ev.getf rfl rfl (by assumption) rfl ?_
  refine Ev.iconst (v := 2) rfl (by decide) ?_
  refine Ev.iload_n rfl rfl ?_
  refine Ev.iastN (k := 2) rfl (by assumption) (by decide) ⟨(by decide), by decide⟩ ?_
  refine Ev.iload_n rfl rfl ?_
  refine Ev.iret (ty := .int) rfl rfl rfl (Nat.le_refl _) (Nat.le_refl _) ?_
  rw [← hQ]
  exact ⟨rfl, rfl⟩
theorem m_end_no (hM : isM σ y g A) (hT : mT A 0 T) (hw : wT T) {n : Int32} (hn : n < 0 ∨ nI (tN T) < n) : RetV Γ m_M_end [.ref y, .int n] σ (.int (-1)) := by
  obtain ⟨m0, m1⟩ := id hM
  unfold RetV
  generalize hQ : (fun (r : Option Value) (σ' : ex_S) => r = some ((.int (-1)) : Value) ∧ σ' = σ) = Q
  refine Ret.start pm_165 rfl ?_
  have a2 : A 2 = nI (tN T) := by simpa using hT.2.2.1
  refine Ev.iload_n rfl rfl ?_
  refine Ev.if_lt (tgt := 14) rfl (by decide) (fun c1 => ?_) (fun c1 => ?_)
  · skip
    refine Ev.iconst (v := (-1)) rfl (by decide) ?_
    refine Ev.iret (ty := .int) rfl rfl rfl (Nat.le_refl _) (Nat.le_refl _) ?_
    rw [← hQ]
    exact ⟨rfl, rfl⟩
  · skip
    refine Ev.iload_n rfl rfl ?_
    refine Ev.aload_n rfl rfl ?_
    refine Ev.getf rfl rfl (by assumption) rfl ?_
    refine Ev.iconst (v := 2) rfl (by decide) ?_
    refine Ev.ialdN (k := 2) rfl (by assumption) (by decide) ⟨(by decide), by decide⟩ ?_
    rw [a2]
    refine Ev.icmp_le (tgt := 16) rfl (by decide) (fun c11 => absurd hn (by rintro (h | h); exact c1 h; exact gt_le.mpr h c11)) (fun c11 => ?_)
    refine Ev.iconst (v := (-1)) rfl (by decide) ?_
    refine Ev.iret (ty := .int) rfl rfl rfl (Nat.le_refl _) (Nat.le_refl _) ?_
    rw [← hQ]
    exact ⟨rfl, rfl⟩
end
end
