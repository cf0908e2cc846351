/-! The line of a school (reference), printed by sym.py. -/
noncomputable section
theorem d0_gt {C k : Nat} (h : k < C) (_ : C < 1000) : (0 : Int32) < nI (C - k) := nI_lt (a := 0) (by omega) (by omega)
theorem d0_ng (C : Nat) : ¬ (0 : Int32) < nI (C - C) := by
  rw [Nat.sub_self]
  decide
/-- a row's first n places hold learners -/
def okR (S : Sch) (n : Nat) (f : Nat → Int32) : Prop := ∀ j, j < n → f j = nI (f j).toNatClampNeg ∧ (f j).toNatClampNeg < S.1
/-- all up to place l, place p left out -/
def okN (S : Sch) (l p : Nat) (f : Nat → Int32) : Prop := ∀ j, j ≤ l → j ≠ p → f j = nI (f j).toNatClampNeg ∧ (f j).toNatClampNeg < S.1
theorem okN_0 {S : Sch} {l : Nat} {f : Nat → Int32} (h : okR S l f) : okN S l (l - 0) f := fun j h1 h2 => h j (by omega)
theorem okN_step {S : Sch} {l k : Nat} {f : Nat → Int32} (h : okN S l (l - k) f) (hk : k < l) : okN S l (l - (k + 1)) (upd f (l - k) (f (l - k - 1))) := by
  intro j h1 h2
  by_cases e : j = l - k
  · subst e
    rw [pk_us]
    exact h (l - k - 1) (by omega) (by omega)
  · rw [pk_un e]
    exact h j h1 e
theorem okR_put {S : Sch} {l p : Nat} {f : Nat → Int32} (h : okN S l p f) (hl : l < S.1) (hb : l < 100) : okR S (l + 1) (upd f p (nI l)) := by
  intro j h1
  by_cases e : j = p
  · subst e
    rw [pk_us, nI_clamp (by omega)]
    exact ⟨rfl, hl⟩
  · rw [pk_un e]
    exact h j (by omega) e
theorem okR_putN {S : Sch} {l : Nat} {f : Nat → Int32} (h : okN S l (l - l) f) (hl : l < S.1 ∧ l < 100) : okR S (l + 1) (upd f (l - l) (nI l)) := okR_put h hl.1 hl.2
theorem okR_putB {S : Sch} {l : Nat} {r : Nat × (Nat → Int32)} (h : okN S l r.1 r.2 ∧ r.1 ≤ l) (hl : l < S.1 ∧ l < 100) : okR S (l + 1) (upd r.2 r.1 (nI l)) := okR_put h.1 hl.1 hl.2

section
variable {Γ : ex_G} {σ : ex_S} {x q a p y : Nat} {S : Sch} {T : Tol} {P : Pln} {g A : Nat → Int32}
def F_m_lines_14 (S : Sch) (g : Nat → Int32) (v_along : Nat → Int32) (k : Nat) (z : (Nat → Int32)) : Nat → (Nat → Int32) → ((Nat → Int32)) ⊕ (Nat × (Nat → Int32)) := fun k' z' => if (S.2.2 0 k) < (S.2.2 0 ((z' ((k - k') - 1)).toNatClampNeg)) then (.inl (upd z' (k - k') (z' ((k - k') - 1)))) else (.inr (k - k', z'))
def F_m_lines_2 (S : Sch) (g : Nat → Int32) (v_along : Nat → Int32) : Nat → (Nat → Int32) → (Nat → Int32) := fun k z => Sum.elim (fun (zx : (Nat → Int32)) => (upd zx (k - k) (nI k))) (fun (rx : Nat × (Nat → Int32)) => (upd rx.2 rx.1 (nI k))) (fe (F_m_lines_14 S g v_along k z) (k) 0 z)
theorem lines_rx {S : Sch} {g va : Nat → Int32} {k : Nat} {z : Nat → Int32} (h : okR S k z) {rx : Nat × (Nat → Int32)} (e : fe (F_m_lines_14 S g va k z) k 0 z = .inr rx) : okN S k rx.1 rx.2 ∧ rx.1 ≤ k :=
  (fe_inv (F := F_m_lines_14 S g va k z) (fun i z' => okN S k (k - i) z') (fun r => okN S k r.1 r.2 ∧ r.1 ≤ k) k 0 z (okN_0 h) (fun j z' _ hj hz => by
    have hj : j < k := by omega
    unfold F_m_lines_14
    split
    · refine ⟨fun z'' e => ?_, fun r e => (by cases e)⟩
      cases e
      exact okN_step hz hj
    · refine ⟨fun z'' e => (by cases e), fun r e => ?_⟩
      cases e
      exact ⟨hz, Nat.sub_le _ _⟩)).2 rx e
def K_m_lines (S : Sch) (g : Nat → Int32) (v_along : Nat → Int32) : (Nat → Int32) := (fo (F_m_lines_2 S g v_along) (S.1) 0 v_along)
theorem m_lines_ok (hM : isM σ y g A) {s : Nat} (hS : mS A s S) (hs : s + 120 ≤ 4500) (hwS : wS S) {v_along : Nat → Int32} (m_along : σ.2 (y + 4) = some (.inl (0, 16, v_along)))  : RetX Γ m_M_linesUp [(.ref y), (.int (nI s))] σ y (y + 17) none (fun τ => τ.2 (y + 4) = some (.inl (0, 16, (K_m_lines S g v_along))) ∧ (∀ q, q ≠ y + 4 → τ.2 q = σ.2 q)) := by
  obtain ⟨m0, m1⟩ := id hM
  have hn16 := hwS.1
  have hn5 := hwS.2.1
  unfold RetX
  generalize hQ : (fun (r : Option Value) (τ : ex_S) => r = none ∧ frm σ τ y (y + 17) ∧ (fun τ : ex_S => τ.2 (y + 4) = some (.inl (0, 16, (K_m_lines S g v_along))) ∧ (∀ q, q ≠ y + 4 → τ.2 q = σ.2 q)) τ) = Q
  refine Ret.start pm_223 rfl ?_
  have fr : frm σ σ y (y + 17) := frm.rf
  have kp : (∀ q, q ≠ y + 4 → σ.2 q = σ.2 q) := fun _ _ => rfl
  have hM : isM _ y g A := ⟨m0, m1⟩
  refine Ev.iconst (v := 0) rfl (by decide) ?_
  refine Ev.istore_n rfl rfl rfl ?_
  refine Ev.fg (L := [some (.ref y), some (.int (nI s)), some (.int (nI 0)), none]) ?_ (gs rfl (gs rfl (gs (congrArg Value.int (rfl : (0 : Int32) = nI 0).symm) (gn gz))))
  refine lp (fun (k : Nat) (z : (Nat → Int32)) => (okR S k z) → ∀ τ' : ex_S, frm σ τ' y (y + 17) → τ'.2 (y + 1) = some (.inl (0, 4500, A)) → τ'.2 y = some (.inr (.inr (10, mo y g))) → τ'.2 (y + 4) = some (.inl (0, 16, z)) → (∀ q, q ≠ y + 4 → τ'.2 q = σ.2 q) → Ev Γ 0 0 m_M_linesUp 0 0 2 [some (.ref y), some (.int (nI s)), some (.int (nI k)), none] [] τ' Q) (F_m_lines_2 S g v_along) (S.1) (fun k z hk hx => ?_) (S.1) 0 v_along (by omega) ?_ (fun j h => absurd h (Nat.not_lt_zero _)) σ fr m1 m0 m_along kp
  · skip
    intro hI
    intro τ' fr m1 m0 m_along kp
    have hM : isM _ y g A := ⟨m0, m1⟩
    refine Ev.iload_n rfl rfl ?_
    refine Ev.aload_n rfl rfl ?_
    refine Ev.getf rfl rfl m0 rfl ?_
    refine Ev.iload_n rfl rfl ?_
    refine Ev.ialdN (k := s) rfl m1 (nq_to (a := s) rfl (by omega)) ⟨(by omega), by decide⟩ ?_
    rw [hS.1]
    refine Ev.jge (tgt := 73) rfl (by decide) (fun c9 => absurd (nI_lt hk (by omega)) c9) (fun c9 => ?_)
    refine Ev.iload_n rfl rfl ?_
    refine Ev.istore_n rfl rfl rfl ?_
    refine Ev.fg (L := [some (.ref y), some (.int (nI s)), some (.int (nI k)), some (.int (nI (k - 0)))]) ?_ (gs rfl (gs rfl (gs rfl (gs rfl gz))))
    refine lpe (fun (k' : Nat) (z' : (Nat → Int32)) => (okN S k (k - k') z') → ∀ τ'' : ex_S, frm σ τ'' y (y + 17) → τ''.2 (y + 1) = some (.inl (0, 4500, A)) → τ''.2 y = some (.inr (.inr (10, mo y g))) → τ''.2 (y + 4) = some (.inl (0, 16, z')) → (∀ q, q ≠ y + 4 → τ''.2 q = σ.2 q) → Ev Γ 0 0 m_M_linesUp 0 0 14 [some (.ref y), some (.int (nI s)), some (.int (nI k)), some (.int (nI (k - k')))] [] τ'' Q) (fun (r : Nat × (Nat → Int32)) => ∀ τ'' : ex_S, frm σ τ'' y (y + 17) → τ''.2 (y + 1) = some (.inl (0, 4500, A)) → τ''.2 y = some (.inr (.inr (10, mo y g))) → τ''.2 (y + 4) = some (.inl (0, 16, r.2)) → (∀ q, q ≠ y + 4 → τ''.2 q = σ.2 q) → Ev Γ 0 0 m_M_linesUp 0 0 60 [some (.ref y), some (.int (nI s)), some (.int (nI k)), some (.int (nI r.1))] [] τ'' Q) (F_m_lines_14 S g v_along k z) (k) (fun k' z' hk' hx' he => ?_) (k) 0 z (by omega) (fun zx hzx => ?_) (fun rx hrx => ?_) (okN_0 hI) τ' fr m1 m0 m_along kp
    · skip
      intro hI'
      intro τ'' fr m1 m0 m_along kp
      have hM : isM _ y g A := ⟨m0, m1⟩
      refine Ev.iload_n rfl rfl ?_
      refine Ev.zle (tgt := 60) rfl (by decide) (fun c15 => absurd (d0_gt hk' (by omega)) c15) (fun c15 => ?_)
      refine Ev.aload_n rfl rfl ?_
      refine Ev.iload_n rfl rfl ?_
      refine Ev.aload_n rfl rfl ?_
      refine Ev.getf rfl rfl m0 rfl ?_
      refine Ev.iload_n rfl rfl ?_
      refine Ev.iconst (v := 1) rfl (by decide) ?_
      refine Ev.isub rfl ?_
      refine Ev.ialdN (k := (k - k') - 1) rfl m_along (nq_sub (a := k - k') (b := 1) rfl (rfl : (1 : Int32) = nI 1) (by omega)) ⟨(by omega), by decide⟩ ?_
      obtain ⟨hq, hql⟩ := hI' ((k - k') - 1) (by omega) (by omega)
      rw [hq]
      refine Ev.cV2 rfl rfl m0 rfl rfl (by decide) ⟨(Nat.le_refl _), (Nat.le_refl _)⟩ (m_step_ok hM hS hs hwS ((z' ((k - k') - 1)).toNatClampNeg) (by omega)) ?_
      refine Ev.aload_n rfl rfl ?_
      refine Ev.iload_n rfl rfl ?_
      refine Ev.iload_n rfl rfl ?_
      refine Ev.cV2 rfl rfl m0 rfl rfl (by decide) ⟨(Nat.le_refl _), (Nat.le_refl _)⟩ (m_step_ok hM hS hs hwS k (by omega)) ?_
      refine Ev.jle (tgt := 60) rfl (by decide) (fun c37 => ?_) (fun c37 => ?_)
      · skip
        have hF : (F_m_lines_14 S g v_along k z) k' z' = .inr (k - k', z') := by
          unfold F_m_lines_14
          rw [if_neg c37]
        exact (he _ hF τ'' fr m1 m0 m_along kp).fg (gs rfl (gs rfl (gs rfl (gs rfl gz))))
      · skip
        refine Ev.aload_n rfl rfl ?_
        refine Ev.getf rfl rfl m0 rfl ?_
        refine Ev.iload_n rfl rfl ?_
        refine Ev.aload_n rfl rfl ?_
        refine Ev.getf rfl rfl m0 rfl ?_
        refine Ev.iload_n rfl rfl ?_
        refine Ev.iconst (v := 1) rfl (by decide) ?_
        refine Ev.isub rfl ?_
        refine Ev.ialdN (k := (k - k') - 1) rfl m_along (nq_sub (a := k - k') (b := 1) rfl (rfl : (1 : Int32) = nI 1) (by omega)) ⟨(by omega), by decide⟩ ?_
        refine Ev.iastE (k := k - k') rfl m_along rfl ⟨(by omega), by decide⟩ (fun τ1 f1 m_along => ?_)
        have m1 := frm.cell f1 m1 (by omega)
        have m0 := frm.cell f1 m0 (by omega)
        have kp : (∀ q, q ≠ y + 4 → τ1.2 q = σ.2 q) := fun q n0 => (f1.2 q (by omega)).trans (kp q n0)
        have fr := fr.step f1 (by omega) (by omega)
        have hM : isM _ y g A := ⟨m0, m1⟩
        refine Ev.iinc (d := (-1)) rfl rfl rfl (by decide) rfl ?_
        refine Ev.goto (tgt := 14) rfl (by decide) ?_
        have hF : (F_m_lines_14 S g v_along k z) k' z' = .inl (upd z' (k - k') (z' ((k - k') - 1))) := by
          unfold F_m_lines_14
          rw [if_pos c37]
        exact (hx' _ hF (by show (okN S k (k - (k' + 1)) (upd z' (k - k') (z' ((k - k') - 1)))); exact okN_step hI' (by omega)) τ1 fr m1 m0 m_along kp).fg (gs rfl (gs rfl (gs rfl (gs (congrArg Value.int (show nI (k - (k' + 1)) = (nI (k - k')) + (-1 : Int32) from (nq_to (a := k - k' - 1) (nq_dec (a := k - k') rfl (rfl : (-1 : Int32) = - nI 1) (by omega)) (by omega)).symm)) gz))))
    · skip
      intro hI'
      intro τ'' fr m1 m0 m_along kp
      have hM : isM _ y g A := ⟨m0, m1⟩
      refine Ev.iload_n rfl rfl ?_
      refine Ev.zle (tgt := 60) rfl (by decide) (fun c15 => ?_) (fun c15 => absurd c15 (d0_ng _))
      try have hrl := (lines_rx hI hrx).2
      refine Ev.aload_n rfl rfl ?_
      refine Ev.getf rfl rfl m0 rfl ?_
      refine Ev.iload_n rfl rfl ?_
      refine Ev.iload_n rfl rfl ?_
      refine Ev.iastE (k := k - k) rfl m_along rfl ⟨(by omega), by decide⟩ (fun τ2 f1 m_along => ?_)
      have m1 := frm.cell f1 m1 (by omega)
      have m0 := frm.cell f1 m0 (by omega)
      have kp : (∀ q, q ≠ y + 4 → τ2.2 q = σ.2 q) := fun q n0 => (f1.2 q (by omega)).trans (kp q n0)
      have fr := fr.step f1 (by omega) (by omega)
      have hM : isM _ y g A := ⟨m0, m1⟩
      refine Ev.iinc (d := 1) rfl rfl rfl (by decide) rfl ?_
      refine Ev.goto (tgt := 2) rfl (by decide) ?_
      have hF : (F_m_lines_2 S g v_along) k z = (upd zx (k - k) (nI k)) := by
        unfold F_m_lines_2
        rw [hzx, Sum.elim_inl]
      rw [hF] at hx
      exact (hx (by show (okR S (k + 1) (upd zx (k - k) (nI k))); first | exact okR_putN hI' (by omega) | exact okR_putB (lines_rx hI hrx) (by omega)) τ2 fr m1 m0 m_along kp).fg (gs rfl (gs rfl (gs (congrArg Value.int (show nI (k + 1) = (nI k) + (1 : Int32) from (nq_to (a := k + 1) (nq_add (a := k) (b := 1) rfl (rfl : (1 : Int32) = nI 1)) (by omega)).symm)) (gn gz))))
    · skip
      intro τ'' fr m1 m0 m_along kp
      have hM : isM _ y g A := ⟨m0, m1⟩
      try have hrl := (lines_rx hI hrx).2
      refine Ev.aload_n rfl rfl ?_
      refine Ev.getf rfl rfl m0 rfl ?_
      refine Ev.iload_n rfl rfl ?_
      refine Ev.iload_n rfl rfl ?_
      refine Ev.iastE (k := rx.1) rfl m_along rfl ⟨(by omega), by decide⟩ (fun τ3 f1 m_along => ?_)
      have m1 := frm.cell f1 m1 (by omega)
      have m0 := frm.cell f1 m0 (by omega)
      have kp : (∀ q, q ≠ y + 4 → τ3.2 q = σ.2 q) := fun q n0 => (f1.2 q (by omega)).trans (kp q n0)
      have fr := fr.step f1 (by omega) (by omega)
      have hM : isM _ y g A := ⟨m0, m1⟩
      refine Ev.iinc (d := 1) rfl rfl rfl (by decide) rfl ?_
      refine Ev.goto (tgt := 2) rfl (by decide) ?_
      have hF : (F_m_lines_2 S g v_along) k z = (upd rx.2 rx.1 (nI k)) := by
        unfold F_m_lines_2
        rw [hrx, Sum.elim_inr]
      rw [hF] at hx
      exact (hx (by show (okR S (k + 1) (upd rx.2 rx.1 (nI k))); first | exact okR_putN hI' (by omega) | exact okR_putB (lines_rx hI hrx) (by omega)) τ3 fr m1 m0 m_along kp).fg (gs rfl (gs rfl (gs (congrArg Value.int (show nI (k + 1) = (nI k) + (1 : Int32) from (nq_to (a := k + 1) (nq_add (a := k) (b := 1) rfl (rfl : (1 : Int32) = nI 1)) (by omega)).symm)) (gn gz))))
  · skip
    intro hI
    intro τ' fr m1 m0 m_along kp
    have hM : isM _ y g A := ⟨m0, m1⟩
    refine Ev.iload_n rfl rfl ?_
    refine Ev.aload_n rfl rfl ?_
    refine Ev.getf rfl rfl m0 rfl ?_
    refine Ev.iload_n rfl rfl ?_
    refine Ev.ialdN (k := s) rfl m1 (nq_to (a := s) rfl (by omega)) ⟨(by omega), by decide⟩ ?_
    rw [hS.1]
    refine Ev.jge (tgt := 73) rfl (by decide) (fun c9 => ?_) (fun c9 => absurd c9 (nI_nlt (Nat.le_refl _) (by omega)))
    refine Ev.ret rfl rfl (Nat.le_refl _) (Nat.le_refl _) ?_
    have hK : (K_m_lines S g v_along) = (fo (F_m_lines_2 S g v_along) (S.1) 0 v_along) := by rfl
    rw [← hQ]
    dsimp only
    rw [hK]
    exact ⟨rfl, fr, m_along, kp⟩
end
end
