/-! Texts of plans (reference): a line. -/
noncomputable section
/-- a line of a plan: its readings, its numbers -/
def lpS (U : Nat → Nat) (n k : Nat) (P : Pln) (s : Rs) : Rs := lstP k P (lw1 U n s) (tS0 U n (Re s))
def lpX (U : Nat → Nat) (n k : Nat) (P : Pln) (s : Rs) : Rs := chn U n k 0 (lpS U n k P s) (NUl.getD k 0)
def lpN (U : Nat → Nat) (n k : Nat) (P : Pln) (s : Rs) : Nat → Nat := nus U n k 0 (lpS U n k P s)
section
variable {Γ : ex_G} {σ : ex_S} {x q a p y : Nat} {S : Sch} {T : Tol} {P : Pln} {g A : Nat → Int32}
variable {P : Pln} {U : Nat → Nat} {n : Nat} {A0 : Nat → Int32} {s : Rs} {ab : Bool}
theorem m_plL18_ok (m0 : σ.2 y = some (.inr (.inr (10, mo y g)))) (m_all : σ.2 (y + 1) = some (.inl (0, 4500, A))) {rd : Nat → Int32} (m_read : σ.2 (y + 3) = some (.inl (0, 120, rd))) (ht : txt U n) (hA0 : ∀ p, p < n → A0 (10 + p) = nI (U p)) (hst : MSt0 U n A0 A g s) (hok : Rok U n s) (hw : Rw s = false) (hk : tK U n (Re s) = 3) (hW : tW U n (Re s) = 15) (h6 : P.1 ≤ 6) {c : Nat} (hrc : rd 0 = nI c) (hcb : c ≤ 600) (hrd : Rf s = 0 → mP rd 0 P) : RetX Γ m_M_planLine [.ref y] σ y (y + 4) none (fun τ => ∃ (g1 A1 rd1 : Nat → Int32) (ab1 : Bool), τ.2 y = some (.inr (.inr (10, mo y g1))) ∧ τ.2 (y + 1) = some (.inl (0, 4500, A1)) ∧ τ.2 (y + 3) = some (.inl (0, 120, rd1)) ∧ τ.2 (y + 2) = σ.2 (y + 2) ∧ MSt U n A0 A1 g1 (rel U n (lpX U n 18 P s)) ab1 ∧ rd1 0 = nI (c + 1) ∧ (Rw (lpX U n 18 P s) = false → Rf (lpX U n 18 P s) = 0 → mP rd1 0 (LnP 18 (lpN U n 18 P s) P))) := by
  have hn6 := ht.1
  have h600 := tS0_le ht hok.1
  have hcP : Rf s = 0 → P.1 = c := fun f => nI_injL (by omega) (by omega) ((hrd f).1.symm.trans hrc)
  unfold RetX
  generalize hQ : ((fun (r0 : Option Value) (τ : ex_S) => r0 = none ∧ frm σ τ y (y + 4) ∧ (fun τ : ex_S => ∃ (g1 A1 rd1 : Nat → Int32) (ab1 : Bool), τ.2 y = some (.inr (.inr (10, mo y g1))) ∧ τ.2 (y + 1) = some (.inl (0, 4500, A1)) ∧ τ.2 (y + 3) = some (.inl (0, 120, rd1)) ∧ τ.2 (y + 2) = σ.2 (y + 2) ∧ MSt U n A0 A1 g1 (rel U n (lpX U n 18 P s)) ab1 ∧ rd1 0 = nI (c + 1) ∧ (Rw (lpX U n 18 P s) = false → Rf (lpX U n 18 P s) = 0 → mP rd1 0 (LnP 18 (lpN U n 18 P s) P))) τ)) = Q
  refine Ret.start pm_184 rfl ?_
  have fr : frm σ σ y (y + 4) := frm.rf
  have m_has : σ.2 (y + 2) = σ.2 (y + 2) := rfl
  refine Ev.aload_n rfl rfl ?_
  refine Ev.getf rfl rfl m0 rfl ?_
  rw [hst.2.2.2.1.2.1]
  refine Ev.istore_n rfl rfl rfl ?_
  refine Ev.aload_n rfl rfl ?_
  refine Ev.bipush (v := 15) rfl (by decide) ?_
  refine Ev.bipush (v := 20) rfl (by decide) ?_
  refine Ev.xV2 rfl rfl m0 rfl rfl (by decide) ⟨(Nat.le_refl _), (Nat.le_refl _)⟩ (m_takes0_y (fi := 15) (la := 20) m0 m_all ht hA0 hst hok hw (by decide) ⟨hk, by rw [hW]; decide, by rw [hW]; decide⟩) (fun τ901 f9 q9 => ?_)
  obtain ⟨g901, A901, m0, m_all, hst⟩ := q9
  have m_read := frm.cell f9 m_read (by omega)
  have m_has := frm.cell f9 m_has (by omega)
  have fr := fr.step f9 (by omega) (by omega)
  rw [show nI (tW U n (Re s)) = (15 : Int32) from by rw [hW]; rfl]
  obtain ⟨s1, hs1⟩ : ∃ q : Rs, q = (false, tE U n (Re s), Rf s, Rp s) := ⟨_, rfl⟩
  rw [← hs1] at hst
  have hw1 : Rw s1 = false := by rw [hs1]; rfl
  have he1 : Re s1 = tE U n (Re s) := by rw [hs1]; rfl
  have hf1 : Rf s1 = Rf s := by rw [hs1]; rfl
  have hp1 : Rp s1 = Rp s := by rw [hs1]; rfl
  have hok0 := hok
  have hok : Rok U n s1 := by rw [hs1]; exact lw1_ok ht hok (by omega) hw
  have ha0 : tS0 U n (Re s) < tS0 U n (Re s1) := by rw [he1]; exact tE_st ht hok0.1 (by omega)
  have hpa : Rw s1 = false → ¬ Rf s1 = 0 → ∃ q, Rp s1 = nI q ∧ q < tS0 U n (Re s) := fun _ c => by
    rw [hp1]
    exact hok0.2.2 hw (by rw [← hf1]; exact c)
  refine Ev.istore_n rfl rfl rfl ?_
  refine Ev.iload_n rfl rfl ?_
  refine Ev.bipush (v := 20) rfl (by decide) ?_
  refine Ev.jne (tgt := 28) rfl (by decide) (fun c17 => ?_) (fun c17 => absurd c17 (by decide))
  refine Ev.iload_n rfl rfl ?_
  refine Ev.zle (tgt := 229) rfl (by decide) (fun c29 => absurd (by decide) c29) (fun c29 => ?_)
  refine Ev.aload_n rfl rfl ?_
  refine Ev.getf rfl rfl m0 rfl ?_
  refine Ev.iconst (v := 0) rfl (by decide) ?_
  refine Ev.ialdN (k := 0) rfl m_read (rfl : (0 : Int32) = nI 0) ⟨(by omega), by decide⟩ ?_
  rw [show rd 0 = nI c from hrc]
  refine Ev.bipush (v := 6) rfl (by decide) ?_
  refine Ev.jlt (tgt := 49) rfl (by decide) (fun c40 => ?_) (fun c40 => ?_)
  · skip
    have h6c : c < 6 := (nI_ltI (a := c) (b := 6) (by omega) (by decide)).mp c40
    have hss : lpS U n 18 P s = s1 := by
      unfold lpS lw1
      rw [← hs1]
      unfold lstP
      by_cases hf0 : Rf s1 = 0
      · have hcP := hcP (hf1.symm.trans hf0)
        rw [if_neg (by omega)]
        exact if_neg (by omega)
      · rw [rnt_f hf0, if_neg (show ¬ (18 = 20 ∧ P.1 = 0) by omega)]
        exact ite_self _
    obtain ⟨s2, hs2⟩ : ∃ q, q = lpS U n 18 P s := ⟨_, rfl⟩
    rw [← hss, ← hs2] at hst
    have hok : Rok U n s2 := by
      rw [hs2]
      unfold lpS lw1
      rw [← hs1]
      exact lstP_ok hok ha0
    refine Ev.aload_n rfl rfl ?_
    refine Ev.iconst (v := 0) rfl (by decide) ?_
    refine Ev.iconst (v := 4) rfl (by decide) ?_
    refine Ev.xV2 rfl rfl m0 rfl rfl (by decide) ⟨(Nat.le_refl _), (Nat.le_refl _)⟩ (m_numb_ok m0 m_all ht hA0 hst hok (lo := 0) (G := fun v => decide (0 ≤ v) && decide (v ≤ 4)) (K_in_G ⟨by decide, by decide⟩)) (fun τ902 f9 q9 => ?_)
    obtain ⟨g902, A902, m0, m_all, hst⟩ := q9
    have m_read := frm.cell f9 m_read (by omega)
    have m_has := frm.cell f9 m_has (by omega)
    have fr := fr.step f9 (by omega) (by omega)
    obtain ⟨s3, hs3⟩ : ∃ q, q = nst U n ((fun v => decide (0 ≤ v) && decide (v ≤ 4)) (tV U n (Re s2))) s2 := ⟨_, rfl⟩
    obtain ⟨ab3, hab3⟩ : ∃ q, q = rab U n (fun v => decide (0 ≤ v) && decide (v ≤ 4)) true s2 := ⟨_, rfl⟩
    obtain ⟨v3, hv3⟩ : ∃ q, q = rvl U n 0 (fun v => decide (0 ≤ v) && decide (v ≤ 4)) s2 := ⟨_, rfl⟩
    rw [← hs3, ← hab3] at hst
    rw [← hv3]
    have hok : Rok U n s3 := by
      rw [hs3]
      exact nst_ok ht hok
    have hr3 := rvl_le (U := U) (n := n) (lo := 0) (hi := 4) (s := s2) (by decide)
    rw [← hv3] at hr3
    refine Ev.istore_n rfl rfl rfl ?_
    refine Ev.aload_n rfl rfl ?_
    refine Ev.iconst (v := 0) rfl (by decide) ?_
    refine Ev.iconst (v := 5) rfl (by decide) ?_
    refine Ev.xV2 rfl rfl m0 rfl rfl (by decide) ⟨(Nat.le_refl _), (Nat.le_refl _)⟩ (m_numb_ok m0 m_all ht hA0 hst hok (lo := 0) (G := fun v => decide (0 ≤ v) && decide (v ≤ 5)) (K_in_G ⟨by decide, by decide⟩)) (fun τ903 f9 q9 => ?_)
    obtain ⟨g903, A903, m0, m_all, hst⟩ := q9
    have m_read := frm.cell f9 m_read (by omega)
    have m_has := frm.cell f9 m_has (by omega)
    have fr := fr.step f9 (by omega) (by omega)
    obtain ⟨s4, hs4⟩ : ∃ q, q = nst U n ((fun v => decide (0 ≤ v) && decide (v ≤ 5)) (tV U n (Re s3))) s3 := ⟨_, rfl⟩
    obtain ⟨ab4, hab4⟩ : ∃ q, q = rab U n (fun v => decide (0 ≤ v) && decide (v ≤ 5)) ab3 s3 := ⟨_, rfl⟩
    obtain ⟨v4, hv4⟩ : ∃ q, q = rvl U n 0 (fun v => decide (0 ≤ v) && decide (v ≤ 5)) s3 := ⟨_, rfl⟩
    rw [← hs4, ← hab4] at hst
    rw [← hv4]
    have hok : Rok U n s4 := by
      rw [hs4]
      exact nst_ok ht hok
    have hr4 := rvl_le (U := U) (n := n) (lo := 0) (hi := 5) (s := s3) (by decide)
    rw [← hv4] at hr4
    refine Ev.istore rfl rfl rfl ?_
    refine Ev.aload_n rfl rfl ?_
    refine Ev.iconst (v := 0) rfl (by decide) ?_
    refine Ev.bipush (v := 11) rfl (by decide) ?_
    refine Ev.xV2 rfl rfl m0 rfl rfl (by decide) ⟨(Nat.le_refl _), (Nat.le_refl _)⟩ (m_numb_ok m0 m_all ht hA0 hst hok (lo := 0) (G := fun v => decide (0 ≤ v) && decide (v ≤ 11)) (K_in_G ⟨by decide, by decide⟩)) (fun τ904 f9 q9 => ?_)
    obtain ⟨g904, A904, m0, m_all, hst⟩ := q9
    have m_read := frm.cell f9 m_read (by omega)
    have m_has := frm.cell f9 m_has (by omega)
    have fr := fr.step f9 (by omega) (by omega)
    obtain ⟨s5, hs5⟩ : ∃ q, q = nst U n ((fun v => decide (0 ≤ v) && decide (v ≤ 11)) (tV U n (Re s4))) s4 := ⟨_, rfl⟩
    obtain ⟨ab5, hab5⟩ : ∃ q, q = rab U n (fun v => decide (0 ≤ v) && decide (v ≤ 11)) ab4 s4 := ⟨_, rfl⟩
    obtain ⟨v5, hv5⟩ : ∃ q, q = rvl U n 0 (fun v => decide (0 ≤ v) && decide (v ≤ 11)) s4 := ⟨_, rfl⟩
    rw [← hs5, ← hab5] at hst
    rw [← hv5]
    have hok : Rok U n s5 := by
      rw [hs5]
      exact nst_ok ht hok
    have hr5 := rvl_le (U := U) (n := n) (lo := 0) (hi := 11) (s := s4) (by decide)
    rw [← hv5] at hr5
    refine Ev.istore rfl rfl rfl ?_
    refine Ev.iload_n rfl rfl ?_
    refine Ev.bipush (v := 19) rfl (by decide) ?_
    refine Ev.jne (tgt := 89) rfl (by decide) (fun c76 => ?_) (fun c76 => absurd c76 (by decide))
    refine Ev.iconst (v := (-1)) rfl (by decide) ?_
    refine Ev.istore rfl rfl rfl ?_
    refine Ev.aload_n rfl rfl ?_
    refine Ev.getf rfl rfl m0 rfl ?_
    refine Ev.iconst (v := 0) rfl (by decide) ?_
    refine Ev.ialdN (k := 0) rfl m_read (rfl : (0 : Int32) = nI 0) ⟨(by omega), by decide⟩ ?_
    rw [show rd 0 = nI c from hrc]
    refine Ev.bipush (v := 6) rfl (by decide) ?_
    refine Ev.jge (tgt := 219) rfl (by decide) (fun c100 => absurd (nI_lt (b := 6) h6c (by decide)) c100) (fun c100 => ?_)
    refine Ev.iconst (v := 1) rfl (by decide) ?_
    refine Ev.bipush (v := 6) rfl (by decide) ?_
    refine Ev.aload_n rfl rfl ?_
    refine Ev.getf rfl rfl m0 rfl ?_
    refine Ev.iconst (v := 0) rfl (by decide) ?_
    refine Ev.ialdN (k := 0) rfl m_read (rfl : (0 : Int32) = nI 0) ⟨(by omega), by decide⟩ ?_
    rw [show rd 0 = nI c from hrc]
    refine Ev.imul rfl ?_
    refine Ev.iadd rfl ?_
    rw [show (1 : Int32) + ((6 : Int32) * (nI c)) = nI (1 + (6 * c)) from (nq_add (a := 1) (b := 6 * c) (rfl : (1 : Int32) = nI 1) (nq_mul (a := 6) (b := c) (rfl : (6 : Int32) = nI 6) rfl))]
    refine Ev.istore rfl rfl rfl ?_
    refine Ev.aload_n rfl rfl ?_
    refine Ev.getf rfl rfl m0 rfl ?_
    refine Ev.iload rfl rfl ?_
    refine Ev.iconst (v := 0) rfl (by decide) ?_
    refine Ev.iadd rfl ?_
    refine Ev.iload_n rfl rfl ?_
    refine Ev.bipush (v := 16) rfl (by decide) ?_
    refine Ev.jne (tgt := 134) rfl (by decide) (fun c127 => ?_) (fun c127 => absurd c127 (by decide))
    refine Ev.iload_n rfl rfl ?_
    refine Ev.bipush (v := 19) rfl (by decide) ?_
    refine Ev.jne (tgt := 144) rfl (by decide) (fun c137 => ?_) (fun c137 => absurd c137 (by decide))
    refine Ev.iload_n rfl rfl ?_
    refine Ev.bipush (v := 17) rfl (by decide) ?_
    refine Ev.jne (tgt := 154) rfl (by decide) (fun c147 => ?_) (fun c147 => absurd c147 (by decide))
    refine Ev.iload_n rfl rfl ?_
    refine Ev.bipush (v := 15) rfl (by decide) ?_
    refine Ev.jne (tgt := 164) rfl (by decide) (fun c157 => absurd (by decide) c157) (fun c157 => ?_)
    refine Ev.iconst (v := 3) rfl (by decide) ?_
    refine Ev.goto (tgt := 165) rfl (by decide) ?_
    refine Ev.iastE (k := 1 + (6 * c) + 0) rfl m_read (nq_add (a := 1 + (6 * c)) (b := 0) rfl (rfl : (0 : Int32) = nI 0)) ⟨(by omega), by decide⟩ (fun τ1 f1 m_read => ?_)
    have m0 := frm.cell f1 m0 (by omega)
    have m_all := frm.cell f1 m_all (by omega)
    have m_has := frm.cell f1 m_has (by omega)
    have fr := fr.step f1 (by omega) (by omega)
    refine Ev.aload_n rfl rfl ?_
    refine Ev.getf rfl rfl m0 rfl ?_
    refine Ev.iload rfl rfl ?_
    refine Ev.iconst (v := 1) rfl (by decide) ?_
    refine Ev.iadd rfl ?_
    refine Ev.iload_n rfl rfl ?_
    refine Ev.iastE (k := 1 + (6 * c) + 1) rfl m_read (nq_add (a := 1 + (6 * c)) (b := 1) rfl (rfl : (1 : Int32) = nI 1)) ⟨(by omega), by decide⟩ (fun τ2 f1 m_read => ?_)
    have m0 := frm.cell f1 m0 (by omega)
    have m_all := frm.cell f1 m_all (by omega)
    have m_has := frm.cell f1 m_has (by omega)
    have fr := fr.step f1 (by omega) (by omega)
    refine Ev.aload_n rfl rfl ?_
    refine Ev.getf rfl rfl m0 rfl ?_
    refine Ev.iload rfl rfl ?_
    refine Ev.iconst (v := 2) rfl (by decide) ?_
    refine Ev.iadd rfl ?_
    refine Ev.iload rfl rfl ?_
    refine Ev.iastE (k := 1 + (6 * c) + 2) rfl m_read (nq_add (a := 1 + (6 * c)) (b := 2) rfl (rfl : (2 : Int32) = nI 2)) ⟨(by omega), by decide⟩ (fun τ3 f1 m_read => ?_)
    have m0 := frm.cell f1 m0 (by omega)
    have m_all := frm.cell f1 m_all (by omega)
    have m_has := frm.cell f1 m_has (by omega)
    have fr := fr.step f1 (by omega) (by omega)
    refine Ev.aload_n rfl rfl ?_
    refine Ev.getf rfl rfl m0 rfl ?_
    refine Ev.iload rfl rfl ?_
    refine Ev.iconst (v := 3) rfl (by decide) ?_
    refine Ev.iadd rfl ?_
    refine Ev.iload rfl rfl ?_
    refine Ev.iastE (k := 1 + (6 * c) + 3) rfl m_read (nq_add (a := 1 + (6 * c)) (b := 3) rfl (rfl : (3 : Int32) = nI 3)) ⟨(by omega), by decide⟩ (fun τ4 f1 m_read => ?_)
    have m0 := frm.cell f1 m0 (by omega)
    have m_all := frm.cell f1 m_all (by omega)
    have m_has := frm.cell f1 m_has (by omega)
    have fr := fr.step f1 (by omega) (by omega)
    refine Ev.aload_n rfl rfl ?_
    refine Ev.getf rfl rfl m0 rfl ?_
    refine Ev.iload rfl rfl ?_
    refine Ev.iconst (v := 4) rfl (by decide) ?_
    refine Ev.iadd rfl ?_
    refine Ev.iload rfl rfl ?_
    refine Ev.iastE (k := 1 + (6 * c) + 4) rfl m_read (nq_add (a := 1 + (6 * c)) (b := 4) rfl (rfl : (4 : Int32) = nI 4)) ⟨(by omega), by decide⟩ (fun τ5 f1 m_read => ?_)
    have m0 := frm.cell f1 m0 (by omega)
    have m_all := frm.cell f1 m_all (by omega)
    have m_has := frm.cell f1 m_has (by omega)
    have fr := fr.step f1 (by omega) (by omega)
    refine Ev.aload_n rfl rfl ?_
    refine Ev.getf rfl rfl m0 rfl ?_
    refine Ev.iload rfl rfl ?_
    refine Ev.iconst (v := 5) rfl (by decide) ?_
    refine Ev.iadd rfl ?_
    refine Ev.iconst (v := 0) rfl (by decide) ?_
    refine Ev.iastE (k := 1 + (6 * c) + 5) rfl m_read (nq_add (a := 1 + (6 * c)) (b := 5) rfl (rfl : (5 : Int32) = nI 5)) ⟨(by omega), by decide⟩ (fun τ6 f1 m_read => ?_)
    have m0 := frm.cell f1 m0 (by omega)
    have m_all := frm.cell f1 m_all (by omega)
    have m_has := frm.cell f1 m_has (by omega)
    have fr := fr.step f1 (by omega) (by omega)
    refine Ev.aload_n rfl rfl ?_
    refine Ev.getf rfl rfl m0 rfl ?_
    refine Ev.iconst (v := 0) rfl (by decide) ?_
    refine Ev.dup2 rfl rfl rfl ?_
    refine Ev.ialdN (k := 0) rfl m_read (rfl : (0 : Int32) = nI 0) ⟨(by omega), by decide⟩ ?_
    rw [show (upd (upd (upd (upd (upd (upd rd (1 + (6 * c) + 0) (3 : Int32)) (1 + (6 * c) + 1) (nI v3)) (1 + (6 * c) + 2) (nI v4)) (1 + (6 * c) + 3) (nI v5)) (1 + (6 * c) + 4) (-1 : Int32)) (1 + (6 * c) + 5) (0 : Int32)) 0 = nI c from (pk_un (by omega)).trans ((pk_un (by omega)).trans ((pk_un (by omega)).trans ((pk_un (by omega)).trans ((pk_un (by omega)).trans ((pk_un (by omega)).trans (hrc))))))]
    refine Ev.iconst (v := 1) rfl (by decide) ?_
    refine Ev.iadd rfl ?_
    rw [show (nI c) + (1 : Int32) = nI (c + 1) from (nq_add (a := c) (b := 1) rfl (rfl : (1 : Int32) = nI 1))]
    refine Ev.iastE (k := 0) rfl m_read (rfl : (0 : Int32) = nI 0) ⟨(by omega), by decide⟩ (fun τ7 f1 m_read => ?_)
    have m0 := frm.cell f1 m0 (by omega)
    have m_all := frm.cell f1 m_all (by omega)
    have m_has := frm.cell f1 m_has (by omega)
    have fr := fr.step f1 (by omega) (by omega)
    refine Ev.aload_n rfl rfl ?_
    refine Ev.xV0u rfl rfl m0 rfl rfl (by decide) ⟨(Nat.le_refl _), (Nat.le_refl _)⟩ (m_endsL_ok m0 m_all ht hA0 hst hok) (fun τ905 f9 q9 => ?_)
    obtain ⟨g905, A905, m0, m_all, hst⟩ := q9
    have m_read := frm.cell f9 m_read (by omega)
    have m_has := frm.cell f9 m_has (by omega)
    have fr := fr.step f9 (by omega) (by omega)
    refine Ev.ret rfl rfl (Nat.le_refl _) (Nat.le_refl _) ?_
    have hX : lpX U n 18 P s = s5 := by
      unfold lpX
      rw [← hs2]
      show chn U n 18 0 s2 3 = s5
      rw [hs5, hs4, hs3]
      rfl
    have hN : lpN U n 18 P s = nus U n 18 0 s2 := by
      unfold lpN
      rw [← hs2]
    rw [← hQ, hX, hN]
    refine ⟨rfl, fr, _, _, _, _, m0, m_all, m_read, m_has, hst, ?_, ?_⟩
    · exact pk_us
    · intro hw9 hf9
      rw [hs5] at hw9 hf9
      obtain ⟨w2, k2, f2, g2, -⟩ := nst_f0 hw9 hf9
      have q2 := f2
      have r2 := w2
      rw [hs4] at q2 r2
      obtain ⟨w1, k1, f1, g1, -⟩ := nst_f0 r2 q2
      have q1 := f1
      have r1 := w1
      rw [hs3] at q1 r1
      obtain ⟨w0, k0, f0, g0, -⟩ := nst_f0 r1 q1
      have fs := f0
      rw [hs2, hss] at fs
      have hm := hrd (hf1.symm.trans fs)
      have hcP := hcP (hf1.symm.trans fs)
      subst hcP
      have u0 : v3 = tV U n (Re s2) := by rw [hv3, rvl_ok w0 k0 g0]
      have n0 : v3 = nus U n 18 0 s2 0 := u0
      have u1 : v4 = tV U n (Re s3) := by rw [hv4, rvl_ok w1 k1 g1]
      have e1 : chn U n 18 0 s2 1 = s3 := by
        rw [hs3]
        rfl
      have n1 : v4 = nus U n 18 0 s2 1 := by
        unfold nus
        rw [e1]
        exact u1
      have u2 : v5 = tV U n (Re s4) := by rw [hv5, rvl_ok w2 k2 g2]
      have e2 : chn U n 18 0 s2 2 = s4 := by
        rw [hs4, hs3]
        rfl
      have n2 : v5 = nus U n 18 0 s2 2 := by
        unfold nus
        rw [e2]
        exact u2
      exact mP_k (d := 3) hm h6c rfl n0 n1 n2 (if_neg (by decide)).symm
  · skip
    refine Ev.aload_n rfl rfl ?_
    refine Ev.iconst (v := 3) rfl (by decide) ?_
    refine Ev.iload_n rfl rfl ?_
    refine Ev.xV2u rfl rfl m0 rfl rfl (by decide) ⟨(Nat.le_refl _), (Nat.le_refl _)⟩ (m_also_ok (k := 3) m0 m_all hst hok.2.1 (by decide) (by omega) (fun a b => by obtain ⟨q, q1, q2⟩ := hpa a b; exact ⟨q, q1, Or.inl q2⟩)) (fun τ902 f9 q9 => ?_)
    obtain ⟨g902, A902, m0, m_all, hst⟩ := q9
    have m_read := frm.cell f9 m_read (by omega)
    have m_has := frm.cell f9 m_has (by omega)
    have fr := fr.step f9 (by omega) (by omega)
    have h6c : 6 ≤ c := Nat.le_of_not_lt (fun h => c40 (nI_lt (b := 6) h (by decide)))
    have hss : lpS U n 18 P s = rnt s1 3 (tS0 U n (Re s)) := by
      unfold lpS lw1
      rw [← hs1]
      unfold lstP
      by_cases hf0 : Rf s1 = 0
      · have hcP := hcP (hf1.symm.trans hf0)
        exact if_pos ⟨by decide, by decide, by omega⟩
      · rw [rnt_f hf0, if_neg (show ¬ (18 = 20 ∧ P.1 = 0) by omega)]
        exact ite_self _
    obtain ⟨s2, hs2⟩ : ∃ q, q = lpS U n 18 P s := ⟨_, rfl⟩
    rw [← hss, ← hs2] at hst
    have hok : Rok U n s2 := by
      rw [hs2]
      unfold lpS lw1
      rw [← hs1]
      exact lstP_ok hok ha0
    refine Ev.aload_n rfl rfl ?_
    refine Ev.iconst (v := 0) rfl (by decide) ?_
    refine Ev.iconst (v := 4) rfl (by decide) ?_
    refine Ev.xV2 rfl rfl m0 rfl rfl (by decide) ⟨(Nat.le_refl _), (Nat.le_refl _)⟩ (m_numb_ok m0 m_all ht hA0 hst hok (lo := 0) (G := fun v => decide (0 ≤ v) && decide (v ≤ 4)) (K_in_G ⟨by decide, by decide⟩)) (fun τ903 f9 q9 => ?_)
    obtain ⟨g903, A903, m0, m_all, hst⟩ := q9
    have m_read := frm.cell f9 m_read (by omega)
    have m_has := frm.cell f9 m_has (by omega)
    have fr := fr.step f9 (by omega) (by omega)
    obtain ⟨s3, hs3⟩ : ∃ q, q = nst U n ((fun v => decide (0 ≤ v) && decide (v ≤ 4)) (tV U n (Re s2))) s2 := ⟨_, rfl⟩
    obtain ⟨ab3, hab3⟩ : ∃ q, q = rab U n (fun v => decide (0 ≤ v) && decide (v ≤ 4)) true s2 := ⟨_, rfl⟩
    obtain ⟨v3, hv3⟩ : ∃ q, q = rvl U n 0 (fun v => decide (0 ≤ v) && decide (v ≤ 4)) s2 := ⟨_, rfl⟩
    rw [← hs3, ← hab3] at hst
    rw [← hv3]
    have hok : Rok U n s3 := by
      rw [hs3]
      exact nst_ok ht hok
    have hr3 := rvl_le (U := U) (n := n) (lo := 0) (hi := 4) (s := s2) (by decide)
    rw [← hv3] at hr3
    refine Ev.istore_n rfl rfl rfl ?_
    refine Ev.aload_n rfl rfl ?_
    refine Ev.iconst (v := 0) rfl (by decide) ?_
    refine Ev.iconst (v := 5) rfl (by decide) ?_
    refine Ev.xV2 rfl rfl m0 rfl rfl (by decide) ⟨(Nat.le_refl _), (Nat.le_refl _)⟩ (m_numb_ok m0 m_all ht hA0 hst hok (lo := 0) (G := fun v => decide (0 ≤ v) && decide (v ≤ 5)) (K_in_G ⟨by decide, by decide⟩)) (fun τ904 f9 q9 => ?_)
    obtain ⟨g904, A904, m0, m_all, hst⟩ := q9
    have m_read := frm.cell f9 m_read (by omega)
    have m_has := frm.cell f9 m_has (by omega)
    have fr := fr.step f9 (by omega) (by omega)
    obtain ⟨s4, hs4⟩ : ∃ q, q = nst U n ((fun v => decide (0 ≤ v) && decide (v ≤ 5)) (tV U n (Re s3))) s3 := ⟨_, rfl⟩
    obtain ⟨ab4, hab4⟩ : ∃ q, q = rab U n (fun v => decide (0 ≤ v) && decide (v ≤ 5)) ab3 s3 := ⟨_, rfl⟩
    obtain ⟨v4, hv4⟩ : ∃ q, q = rvl U n 0 (fun v => decide (0 ≤ v) && decide (v ≤ 5)) s3 := ⟨_, rfl⟩
    rw [← hs4, ← hab4] at hst
    rw [← hv4]
    have hok : Rok U n s4 := by
      rw [hs4]
      exact nst_ok ht hok
    have hr4 := rvl_le (U := U) (n := n) (lo := 0) (hi := 5) (s := s3) (by decide)
    rw [← hv4] at hr4
    refine Ev.istore rfl rfl rfl ?_
    refine Ev.aload_n rfl rfl ?_
    refine Ev.iconst (v := 0) rfl (by decide) ?_
    refine Ev.bipush (v := 11) rfl (by decide) ?_
    refine Ev.xV2 rfl rfl m0 rfl rfl (by decide) ⟨(Nat.le_refl _), (Nat.le_refl _)⟩ (m_numb_ok m0 m_all ht hA0 hst hok (lo := 0) (G := fun v => decide (0 ≤ v) && decide (v ≤ 11)) (K_in_G ⟨by decide, by decide⟩)) (fun τ905 f9 q9 => ?_)
    obtain ⟨g905, A905, m0, m_all, hst⟩ := q9
    have m_read := frm.cell f9 m_read (by omega)
    have m_has := frm.cell f9 m_has (by omega)
    have fr := fr.step f9 (by omega) (by omega)
    obtain ⟨s5, hs5⟩ : ∃ q, q = nst U n ((fun v => decide (0 ≤ v) && decide (v ≤ 11)) (tV U n (Re s4))) s4 := ⟨_, rfl⟩
    obtain ⟨ab5, hab5⟩ : ∃ q, q = rab U n (fun v => decide (0 ≤ v) && decide (v ≤ 11)) ab4 s4 := ⟨_, rfl⟩
    obtain ⟨v5, hv5⟩ : ∃ q, q = rvl U n 0 (fun v => decide (0 ≤ v) && decide (v ≤ 11)) s4 := ⟨_, rfl⟩
    rw [← hs5, ← hab5] at hst
    rw [← hv5]
    have hok : Rok U n s5 := by
      rw [hs5]
      exact nst_ok ht hok
    have hr5 := rvl_le (U := U) (n := n) (lo := 0) (hi := 11) (s := s4) (by decide)
    rw [← hv5] at hr5
    refine Ev.istore rfl rfl rfl ?_
    refine Ev.iload_n rfl rfl ?_
    refine Ev.bipush (v := 19) rfl (by decide) ?_
    refine Ev.jne (tgt := 89) rfl (by decide) (fun c76 => ?_) (fun c76 => absurd c76 (by decide))
    refine Ev.iconst (v := (-1)) rfl (by decide) ?_
    refine Ev.istore rfl rfl rfl ?_
    refine Ev.aload_n rfl rfl ?_
    refine Ev.getf rfl rfl m0 rfl ?_
    refine Ev.iconst (v := 0) rfl (by decide) ?_
    refine Ev.ialdN (k := 0) rfl m_read (rfl : (0 : Int32) = nI 0) ⟨(by omega), by decide⟩ ?_
    rw [show rd 0 = nI c from hrc]
    refine Ev.bipush (v := 6) rfl (by decide) ?_
    refine Ev.jge (tgt := 219) rfl (by decide) (fun c100 => ?_) (fun c100 => absurd c100 (nI_nlt h6c (by omega)))
    refine Ev.aload_n rfl rfl ?_
    refine Ev.getf rfl rfl m0 rfl ?_
    refine Ev.iconst (v := 0) rfl (by decide) ?_
    refine Ev.dup2 rfl rfl rfl ?_
    refine Ev.ialdN (k := 0) rfl m_read (rfl : (0 : Int32) = nI 0) ⟨(by omega), by decide⟩ ?_
    rw [show rd 0 = nI c from hrc]
    refine Ev.iconst (v := 1) rfl (by decide) ?_
    refine Ev.iadd rfl ?_
    rw [show (nI c) + (1 : Int32) = nI (c + 1) from (nq_add (a := c) (b := 1) rfl (rfl : (1 : Int32) = nI 1))]
    refine Ev.iastE (k := 0) rfl m_read (rfl : (0 : Int32) = nI 0) ⟨(by omega), by decide⟩ (fun τ8 f1 m_read => ?_)
    have m0 := frm.cell f1 m0 (by omega)
    have m_all := frm.cell f1 m_all (by omega)
    have m_has := frm.cell f1 m_has (by omega)
    have fr := fr.step f1 (by omega) (by omega)
    refine Ev.aload_n rfl rfl ?_
    refine Ev.xV0u rfl rfl m0 rfl rfl (by decide) ⟨(Nat.le_refl _), (Nat.le_refl _)⟩ (m_endsL_ok m0 m_all ht hA0 hst hok) (fun τ906 f9 q9 => ?_)
    obtain ⟨g906, A906, m0, m_all, hst⟩ := q9
    have m_read := frm.cell f9 m_read (by omega)
    have m_has := frm.cell f9 m_has (by omega)
    have fr := fr.step f9 (by omega) (by omega)
    refine Ev.ret rfl rfl (Nat.le_refl _) (Nat.le_refl _) ?_
    have hX : lpX U n 18 P s = s5 := by
      unfold lpX
      rw [← hs2]
      show chn U n 18 0 s2 3 = s5
      rw [hs5, hs4, hs3]
      rfl
    have hN : lpN U n 18 P s = nus U n 18 0 s2 := by
      unfold lpN
      rw [← hs2]
    rw [← hQ, hX, hN]
    refine ⟨rfl, fr, _, _, _, _, m0, m_all, m_read, m_has, hst, ?_, ?_⟩
    · exact pk_us
    · intro hw9 hf9
      rw [hs5] at hw9 hf9
      obtain ⟨w2, k2, f2, g2, -⟩ := nst_f0 hw9 hf9
      have q2 := f2
      have r2 := w2
      rw [hs4] at q2 r2
      obtain ⟨w1, k1, f1, g1, -⟩ := nst_f0 r2 q2
      have q1 := f1
      have r1 := w1
      rw [hs3] at q1 r1
      obtain ⟨w0, k0, f0, g0, -⟩ := nst_f0 r1 q1
      rw [hs2, hss] at f0
      exact absurd f0 (rnt_f0 (by decide))
theorem m_plL15_ok (m0 : σ.2 y = some (.inr (.inr (10, mo y g)))) (m_all : σ.2 (y + 1) = some (.inl (0, 4500, A))) {rd : Nat → Int32} (m_read : σ.2 (y + 3) = some (.inl (0, 120, rd))) (ht : txt U n) (hA0 : ∀ p, p < n → A0 (10 + p) = nI (U p)) (hst : MSt0 U n A0 A g s) (hok : Rok U n s) (hw : Rw s = false) (hk : tK U n (Re s) = 3) (hW : tW U n (Re s) = 16) (h6 : P.1 ≤ 6) {c : Nat} (hrc : rd 0 = nI c) (hcb : c ≤ 600) (hrd : Rf s = 0 → mP rd 0 P) : RetX Γ m_M_planLine [.ref y] σ y (y + 4) none (fun τ => ∃ (g1 A1 rd1 : Nat → Int32) (ab1 : Bool), τ.2 y = some (.inr (.inr (10, mo y g1))) ∧ τ.2 (y + 1) = some (.inl (0, 4500, A1)) ∧ τ.2 (y + 3) = some (.inl (0, 120, rd1)) ∧ τ.2 (y + 2) = σ.2 (y + 2) ∧ MSt U n A0 A1 g1 (rel U n (lpX U n 15 P s)) ab1 ∧ rd1 0 = nI (c + 1) ∧ (Rw (lpX U n 15 P s) = false → Rf (lpX U n 15 P s) = 0 → mP rd1 0 (LnP 15 (lpN U n 15 P s) P))) := by
  have hn6 := ht.1
  have h600 := tS0_le ht hok.1
  have hcP : Rf s = 0 → P.1 = c := fun f => nI_injL (by omega) (by omega) ((hrd f).1.symm.trans hrc)
  unfold RetX
  generalize hQ : ((fun (r0 : Option Value) (τ : ex_S) => r0 = none ∧ frm σ τ y (y + 4) ∧ (fun τ : ex_S => ∃ (g1 A1 rd1 : Nat → Int32) (ab1 : Bool), τ.2 y = some (.inr (.inr (10, mo y g1))) ∧ τ.2 (y + 1) = some (.inl (0, 4500, A1)) ∧ τ.2 (y + 3) = some (.inl (0, 120, rd1)) ∧ τ.2 (y + 2) = σ.2 (y + 2) ∧ MSt U n A0 A1 g1 (rel U n (lpX U n 15 P s)) ab1 ∧ rd1 0 = nI (c + 1) ∧ (Rw (lpX U n 15 P s) = false → Rf (lpX U n 15 P s) = 0 → mP rd1 0 (LnP 15 (lpN U n 15 P s) P))) τ)) = Q
  refine Ret.start pm_184 rfl ?_
  have fr : frm σ σ y (y + 4) := frm.rf
  have m_has : σ.2 (y + 2) = σ.2 (y + 2) := rfl
  refine Ev.aload_n rfl rfl ?_
  refine Ev.getf rfl rfl m0 rfl ?_
  rw [hst.2.2.2.1.2.1]
  refine Ev.istore_n rfl rfl rfl ?_
  refine Ev.aload_n rfl rfl ?_
  refine Ev.bipush (v := 15) rfl (by decide) ?_
  refine Ev.bipush (v := 20) rfl (by decide) ?_
  refine Ev.xV2 rfl rfl m0 rfl rfl (by decide) ⟨(Nat.le_refl _), (Nat.le_refl _)⟩ (m_takes0_y (fi := 15) (la := 20) m0 m_all ht hA0 hst hok hw (by decide) ⟨hk, by rw [hW]; decide, by rw [hW]; decide⟩) (fun τ901 f9 q9 => ?_)
  obtain ⟨g901, A901, m0, m_all, hst⟩ := q9
  have m_read := frm.cell f9 m_read (by omega)
  have m_has := frm.cell f9 m_has (by omega)
  have fr := fr.step f9 (by omega) (by omega)
  rw [show nI (tW U n (Re s)) = (16 : Int32) from by rw [hW]; rfl]
  obtain ⟨s1, hs1⟩ : ∃ q : Rs, q = (false, tE U n (Re s), Rf s, Rp s) := ⟨_, rfl⟩
  rw [← hs1] at hst
  have hw1 : Rw s1 = false := by rw [hs1]; rfl
  have he1 : Re s1 = tE U n (Re s) := by rw [hs1]; rfl
  have hf1 : Rf s1 = Rf s := by rw [hs1]; rfl
  have hp1 : Rp s1 = Rp s := by rw [hs1]; rfl
  have hok0 := hok
  have hok : Rok U n s1 := by rw [hs1]; exact lw1_ok ht hok (by omega) hw
  have ha0 : tS0 U n (Re s) < tS0 U n (Re s1) := by rw [he1]; exact tE_st ht hok0.1 (by omega)
  have hpa : Rw s1 = false → ¬ Rf s1 = 0 → ∃ q, Rp s1 = nI q ∧ q < tS0 U n (Re s) := fun _ c => by
    rw [hp1]
    exact hok0.2.2 hw (by rw [← hf1]; exact c)
  refine Ev.istore_n rfl rfl rfl ?_
  refine Ev.iload_n rfl rfl ?_
  refine Ev.bipush (v := 20) rfl (by decide) ?_
  refine Ev.jne (tgt := 28) rfl (by decide) (fun c17 => ?_) (fun c17 => absurd c17 (by decide))
  refine Ev.iload_n rfl rfl ?_
  refine Ev.zle (tgt := 229) rfl (by decide) (fun c29 => absurd (by decide) c29) (fun c29 => ?_)
  refine Ev.aload_n rfl rfl ?_
  refine Ev.getf rfl rfl m0 rfl ?_
  refine Ev.iconst (v := 0) rfl (by decide) ?_
  refine Ev.ialdN (k := 0) rfl m_read (rfl : (0 : Int32) = nI 0) ⟨(by omega), by decide⟩ ?_
  rw [show rd 0 = nI c from hrc]
  refine Ev.bipush (v := 6) rfl (by decide) ?_
  refine Ev.jlt (tgt := 49) rfl (by decide) (fun c40 => ?_) (fun c40 => ?_)
  · skip
    have h6c : c < 6 := (nI_ltI (a := c) (b := 6) (by omega) (by decide)).mp c40
    have hss : lpS U n 15 P s = s1 := by
      unfold lpS lw1
      rw [← hs1]
      unfold lstP
      by_cases hf0 : Rf s1 = 0
      · have hcP := hcP (hf1.symm.trans hf0)
        rw [if_neg (by omega)]
        exact if_neg (by omega)
      · rw [rnt_f hf0, if_neg (show ¬ (15 = 20 ∧ P.1 = 0) by omega)]
        exact ite_self _
    obtain ⟨s2, hs2⟩ : ∃ q, q = lpS U n 15 P s := ⟨_, rfl⟩
    rw [← hss, ← hs2] at hst
    have hok : Rok U n s2 := by
      rw [hs2]
      unfold lpS lw1
      rw [← hs1]
      exact lstP_ok hok ha0
    refine Ev.aload_n rfl rfl ?_
    refine Ev.iconst (v := 0) rfl (by decide) ?_
    refine Ev.iconst (v := 4) rfl (by decide) ?_
    refine Ev.xV2 rfl rfl m0 rfl rfl (by decide) ⟨(Nat.le_refl _), (Nat.le_refl _)⟩ (m_numb_ok m0 m_all ht hA0 hst hok (lo := 0) (G := fun v => decide (0 ≤ v) && decide (v ≤ 4)) (K_in_G ⟨by decide, by decide⟩)) (fun τ902 f9 q9 => ?_)
    obtain ⟨g902, A902, m0, m_all, hst⟩ := q9
    have m_read := frm.cell f9 m_read (by omega)
    have m_has := frm.cell f9 m_has (by omega)
    have fr := fr.step f9 (by omega) (by omega)
    obtain ⟨s3, hs3⟩ : ∃ q, q = nst U n ((fun v => decide (0 ≤ v) && decide (v ≤ 4)) (tV U n (Re s2))) s2 := ⟨_, rfl⟩
    obtain ⟨ab3, hab3⟩ : ∃ q, q = rab U n (fun v => decide (0 ≤ v) && decide (v ≤ 4)) true s2 := ⟨_, rfl⟩
    obtain ⟨v3, hv3⟩ : ∃ q, q = rvl U n 0 (fun v => decide (0 ≤ v) && decide (v ≤ 4)) s2 := ⟨_, rfl⟩
    rw [← hs3, ← hab3] at hst
    rw [← hv3]
    have hok : Rok U n s3 := by
      rw [hs3]
      exact nst_ok ht hok
    have hr3 := rvl_le (U := U) (n := n) (lo := 0) (hi := 4) (s := s2) (by decide)
    rw [← hv3] at hr3
    refine Ev.istore_n rfl rfl rfl ?_
    refine Ev.aload_n rfl rfl ?_
    refine Ev.iconst (v := 0) rfl (by decide) ?_
    refine Ev.iconst (v := 5) rfl (by decide) ?_
    refine Ev.xV2 rfl rfl m0 rfl rfl (by decide) ⟨(Nat.le_refl _), (Nat.le_refl _)⟩ (m_numb_ok m0 m_all ht hA0 hst hok (lo := 0) (G := fun v => decide (0 ≤ v) && decide (v ≤ 5)) (K_in_G ⟨by decide, by decide⟩)) (fun τ903 f9 q9 => ?_)
    obtain ⟨g903, A903, m0, m_all, hst⟩ := q9
    have m_read := frm.cell f9 m_read (by omega)
    have m_has := frm.cell f9 m_has (by omega)
    have fr := fr.step f9 (by omega) (by omega)
    obtain ⟨s4, hs4⟩ : ∃ q, q = nst U n ((fun v => decide (0 ≤ v) && decide (v ≤ 5)) (tV U n (Re s3))) s3 := ⟨_, rfl⟩
    obtain ⟨ab4, hab4⟩ : ∃ q, q = rab U n (fun v => decide (0 ≤ v) && decide (v ≤ 5)) ab3 s3 := ⟨_, rfl⟩
    obtain ⟨v4, hv4⟩ : ∃ q, q = rvl U n 0 (fun v => decide (0 ≤ v) && decide (v ≤ 5)) s3 := ⟨_, rfl⟩
    rw [← hs4, ← hab4] at hst
    rw [← hv4]
    have hok : Rok U n s4 := by
      rw [hs4]
      exact nst_ok ht hok
    have hr4 := rvl_le (U := U) (n := n) (lo := 0) (hi := 5) (s := s3) (by decide)
    rw [← hv4] at hr4
    refine Ev.istore rfl rfl rfl ?_
    refine Ev.aload_n rfl rfl ?_
    refine Ev.iconst (v := 0) rfl (by decide) ?_
    refine Ev.bipush (v := 11) rfl (by decide) ?_
    refine Ev.xV2 rfl rfl m0 rfl rfl (by decide) ⟨(Nat.le_refl _), (Nat.le_refl _)⟩ (m_numb_ok m0 m_all ht hA0 hst hok (lo := 0) (G := fun v => decide (0 ≤ v) && decide (v ≤ 11)) (K_in_G ⟨by decide, by decide⟩)) (fun τ904 f9 q9 => ?_)
    obtain ⟨g904, A904, m0, m_all, hst⟩ := q9
    have m_read := frm.cell f9 m_read (by omega)
    have m_has := frm.cell f9 m_has (by omega)
    have fr := fr.step f9 (by omega) (by omega)
    obtain ⟨s5, hs5⟩ : ∃ q, q = nst U n ((fun v => decide (0 ≤ v) && decide (v ≤ 11)) (tV U n (Re s4))) s4 := ⟨_, rfl⟩
    obtain ⟨ab5, hab5⟩ : ∃ q, q = rab U n (fun v => decide (0 ≤ v) && decide (v ≤ 11)) ab4 s4 := ⟨_, rfl⟩
    obtain ⟨v5, hv5⟩ : ∃ q, q = rvl U n 0 (fun v => decide (0 ≤ v) && decide (v ≤ 11)) s4 := ⟨_, rfl⟩
    rw [← hs5, ← hab5] at hst
    rw [← hv5]
    have hok : Rok U n s5 := by
      rw [hs5]
      exact nst_ok ht hok
    have hr5 := rvl_le (U := U) (n := n) (lo := 0) (hi := 11) (s := s4) (by decide)
    rw [← hv5] at hr5
    refine Ev.istore rfl rfl rfl ?_
    refine Ev.iload_n rfl rfl ?_
    refine Ev.bipush (v := 19) rfl (by decide) ?_
    refine Ev.jne (tgt := 89) rfl (by decide) (fun c76 => ?_) (fun c76 => absurd c76 (by decide))
    refine Ev.iconst (v := (-1)) rfl (by decide) ?_
    refine Ev.istore rfl rfl rfl ?_
    refine Ev.aload_n rfl rfl ?_
    refine Ev.getf rfl rfl m0 rfl ?_
    refine Ev.iconst (v := 0) rfl (by decide) ?_
    refine Ev.ialdN (k := 0) rfl m_read (rfl : (0 : Int32) = nI 0) ⟨(by omega), by decide⟩ ?_
    rw [show rd 0 = nI c from hrc]
    refine Ev.bipush (v := 6) rfl (by decide) ?_
    refine Ev.jge (tgt := 219) rfl (by decide) (fun c100 => absurd (nI_lt (b := 6) h6c (by decide)) c100) (fun c100 => ?_)
    refine Ev.iconst (v := 1) rfl (by decide) ?_
    refine Ev.bipush (v := 6) rfl (by decide) ?_
    refine Ev.aload_n rfl rfl ?_
    refine Ev.getf rfl rfl m0 rfl ?_
    refine Ev.iconst (v := 0) rfl (by decide) ?_
    refine Ev.ialdN (k := 0) rfl m_read (rfl : (0 : Int32) = nI 0) ⟨(by omega), by decide⟩ ?_
    rw [show rd 0 = nI c from hrc]
    refine Ev.imul rfl ?_
    refine Ev.iadd rfl ?_
    rw [show (1 : Int32) + ((6 : Int32) * (nI c)) = nI (1 + (6 * c)) from (nq_add (a := 1) (b := 6 * c) (rfl : (1 : Int32) = nI 1) (nq_mul (a := 6) (b := c) (rfl : (6 : Int32) = nI 6) rfl))]
    refine Ev.istore rfl rfl rfl ?_
    refine Ev.aload_n rfl rfl ?_
    refine Ev.getf rfl rfl m0 rfl ?_
    refine Ev.iload rfl rfl ?_
    refine Ev.iconst (v := 0) rfl (by decide) ?_
    refine Ev.iadd rfl ?_
    refine Ev.iload_n rfl rfl ?_
    refine Ev.bipush (v := 16) rfl (by decide) ?_
    refine Ev.jne (tgt := 134) rfl (by decide) (fun c127 => absurd (by decide) c127) (fun c127 => ?_)
    refine Ev.iconst (v := 0) rfl (by decide) ?_
    refine Ev.goto (tgt := 165) rfl (by decide) ?_
    refine Ev.iastE (k := 1 + (6 * c) + 0) rfl m_read (nq_add (a := 1 + (6 * c)) (b := 0) rfl (rfl : (0 : Int32) = nI 0)) ⟨(by omega), by decide⟩ (fun τ1 f1 m_read => ?_)
    have m0 := frm.cell f1 m0 (by omega)
    have m_all := frm.cell f1 m_all (by omega)
    have m_has := frm.cell f1 m_has (by omega)
    have fr := fr.step f1 (by omega) (by omega)
    refine Ev.aload_n rfl rfl ?_
    refine Ev.getf rfl rfl m0 rfl ?_
    refine Ev.iload rfl rfl ?_
    refine Ev.iconst (v := 1) rfl (by decide) ?_
    refine Ev.iadd rfl ?_
    refine Ev.iload_n rfl rfl ?_
    refine Ev.iastE (k := 1 + (6 * c) + 1) rfl m_read (nq_add (a := 1 + (6 * c)) (b := 1) rfl (rfl : (1 : Int32) = nI 1)) ⟨(by omega), by decide⟩ (fun τ2 f1 m_read => ?_)
    have m0 := frm.cell f1 m0 (by omega)
    have m_all := frm.cell f1 m_all (by omega)
    have m_has := frm.cell f1 m_has (by omega)
    have fr := fr.step f1 (by omega) (by omega)
    refine Ev.aload_n rfl rfl ?_
    refine Ev.getf rfl rfl m0 rfl ?_
    refine Ev.iload rfl rfl ?_
    refine Ev.iconst (v := 2) rfl (by decide) ?_
    refine Ev.iadd rfl ?_
    refine Ev.iload rfl rfl ?_
    refine Ev.iastE (k := 1 + (6 * c) + 2) rfl m_read (nq_add (a := 1 + (6 * c)) (b := 2) rfl (rfl : (2 : Int32) = nI 2)) ⟨(by omega), by decide⟩ (fun τ3 f1 m_read => ?_)
    have m0 := frm.cell f1 m0 (by omega)
    have m_all := frm.cell f1 m_all (by omega)
    have m_has := frm.cell f1 m_has (by omega)
    have fr := fr.step f1 (by omega) (by omega)
    refine Ev.aload_n rfl rfl ?_
    refine Ev.getf rfl rfl m0 rfl ?_
    refine Ev.iload rfl rfl ?_
    refine Ev.iconst (v := 3) rfl (by decide) ?_
    refine Ev.iadd rfl ?_
    refine Ev.iload rfl rfl ?_
    refine Ev.iastE (k := 1 + (6 * c) + 3) rfl m_read (nq_add (a := 1 + (6 * c)) (b := 3) rfl (rfl : (3 : Int32) = nI 3)) ⟨(by omega), by decide⟩ (fun τ4 f1 m_read => ?_)
    have m0 := frm.cell f1 m0 (by omega)
    have m_all := frm.cell f1 m_all (by omega)
    have m_has := frm.cell f1 m_has (by omega)
    have fr := fr.step f1 (by omega) (by omega)
    refine Ev.aload_n rfl rfl ?_
    refine Ev.getf rfl rfl m0 rfl ?_
    refine Ev.iload rfl rfl ?_
    refine Ev.iconst (v := 4) rfl (by decide) ?_
    refine Ev.iadd rfl ?_
    refine Ev.iload rfl rfl ?_
    refine Ev.iastE (k := 1 + (6 * c) + 4) rfl m_read (nq_add (a := 1 + (6 * c)) (b := 4) rfl (rfl : (4 : Int32) = nI 4)) ⟨(by omega), by decide⟩ (fun τ5 f1 m_read => ?_)
    have m0 := frm.cell f1 m0 (by omega)
    have m_all := frm.cell f1 m_all (by omega)
    have m_has := frm.cell f1 m_has (by omega)
    have fr := fr.step f1 (by omega) (by omega)
    refine Ev.aload_n rfl rfl ?_
    refine Ev.getf rfl rfl m0 rfl ?_
    refine Ev.iload rfl rfl ?_
    refine Ev.iconst (v := 5) rfl (by decide) ?_
    refine Ev.iadd rfl ?_
    refine Ev.iconst (v := 0) rfl (by decide) ?_
    refine Ev.iastE (k := 1 + (6 * c) + 5) rfl m_read (nq_add (a := 1 + (6 * c)) (b := 5) rfl (rfl : (5 : Int32) = nI 5)) ⟨(by omega), by decide⟩ (fun τ6 f1 m_read => ?_)
    have m0 := frm.cell f1 m0 (by omega)
    have m_all := frm.cell f1 m_all (by omega)
    have m_has := frm.cell f1 m_has (by omega)
    have fr := fr.step f1 (by omega) (by omega)
    refine Ev.aload_n rfl rfl ?_
    refine Ev.getf rfl rfl m0 rfl ?_
    refine Ev.iconst (v := 0) rfl (by decide) ?_
    refine Ev.dup2 rfl rfl rfl ?_
    refine Ev.ialdN (k := 0) rfl m_read (rfl : (0 : Int32) = nI 0) ⟨(by omega), by decide⟩ ?_
    rw [show (upd (upd (upd (upd (upd (upd rd (1 + (6 * c) + 0) (0 : Int32)) (1 + (6 * c) + 1) (nI v3)) (1 + (6 * c) + 2) (nI v4)) (1 + (6 * c) + 3) (nI v5)) (1 + (6 * c) + 4) (-1 : Int32)) (1 + (6 * c) + 5) (0 : Int32)) 0 = nI c from (pk_un (by omega)).trans ((pk_un (by omega)).trans ((pk_un (by omega)).trans ((pk_un (by omega)).trans ((pk_un (by omega)).trans ((pk_un (by omega)).trans (hrc))))))]
    refine Ev.iconst (v := 1) rfl (by decide) ?_
    refine Ev.iadd rfl ?_
    rw [show (nI c) + (1 : Int32) = nI (c + 1) from (nq_add (a := c) (b := 1) rfl (rfl : (1 : Int32) = nI 1))]
    refine Ev.iastE (k := 0) rfl m_read (rfl : (0 : Int32) = nI 0) ⟨(by omega), by decide⟩ (fun τ7 f1 m_read => ?_)
    have m0 := frm.cell f1 m0 (by omega)
    have m_all := frm.cell f1 m_all (by omega)
    have m_has := frm.cell f1 m_has (by omega)
    have fr := fr.step f1 (by omega) (by omega)
    refine Ev.aload_n rfl rfl ?_
    refine Ev.xV0u rfl rfl m0 rfl rfl (by decide) ⟨(Nat.le_refl _), (Nat.le_refl _)⟩ (m_endsL_ok m0 m_all ht hA0 hst hok) (fun τ905 f9 q9 => ?_)
    obtain ⟨g905, A905, m0, m_all, hst⟩ := q9
    have m_read := frm.cell f9 m_read (by omega)
    have m_has := frm.cell f9 m_has (by omega)
    have fr := fr.step f9 (by omega) (by omega)
    refine Ev.ret rfl rfl (Nat.le_refl _) (Nat.le_refl _) ?_
    have hX : lpX U n 15 P s = s5 := by
      unfold lpX
      rw [← hs2]
      show chn U n 15 0 s2 3 = s5
      rw [hs5, hs4, hs3]
      rfl
    have hN : lpN U n 15 P s = nus U n 15 0 s2 := by
      unfold lpN
      rw [← hs2]
    rw [← hQ, hX, hN]
    refine ⟨rfl, fr, _, _, _, _, m0, m_all, m_read, m_has, hst, ?_, ?_⟩
    · exact pk_us
    · intro hw9 hf9
      rw [hs5] at hw9 hf9
      obtain ⟨w2, k2, f2, g2, -⟩ := nst_f0 hw9 hf9
      have q2 := f2
      have r2 := w2
      rw [hs4] at q2 r2
      obtain ⟨w1, k1, f1, g1, -⟩ := nst_f0 r2 q2
      have q1 := f1
      have r1 := w1
      rw [hs3] at q1 r1
      obtain ⟨w0, k0, f0, g0, -⟩ := nst_f0 r1 q1
      have fs := f0
      rw [hs2, hss] at fs
      have hm := hrd (hf1.symm.trans fs)
      have hcP := hcP (hf1.symm.trans fs)
      subst hcP
      have u0 : v3 = tV U n (Re s2) := by rw [hv3, rvl_ok w0 k0 g0]
      have n0 : v3 = nus U n 15 0 s2 0 := u0
      have u1 : v4 = tV U n (Re s3) := by rw [hv4, rvl_ok w1 k1 g1]
      have e1 : chn U n 15 0 s2 1 = s3 := by
        rw [hs3]
        rfl
      have n1 : v4 = nus U n 15 0 s2 1 := by
        unfold nus
        rw [e1]
        exact u1
      have u2 : v5 = tV U n (Re s4) := by rw [hv5, rvl_ok w2 k2 g2]
      have e2 : chn U n 15 0 s2 2 = s4 := by
        rw [hs4, hs3]
        rfl
      have n2 : v5 = nus U n 15 0 s2 2 := by
        unfold nus
        rw [e2]
        exact u2
      exact mP_k (d := 0) hm h6c rfl n0 n1 n2 (if_neg (by decide)).symm
  · skip
    refine Ev.aload_n rfl rfl ?_
    refine Ev.iconst (v := 3) rfl (by decide) ?_
    refine Ev.iload_n rfl rfl ?_
    refine Ev.xV2u rfl rfl m0 rfl rfl (by decide) ⟨(Nat.le_refl _), (Nat.le_refl _)⟩ (m_also_ok (k := 3) m0 m_all hst hok.2.1 (by decide) (by omega) (fun a b => by obtain ⟨q, q1, q2⟩ := hpa a b; exact ⟨q, q1, Or.inl q2⟩)) (fun τ902 f9 q9 => ?_)
    obtain ⟨g902, A902, m0, m_all, hst⟩ := q9
    have m_read := frm.cell f9 m_read (by omega)
    have m_has := frm.cell f9 m_has (by omega)
    have fr := fr.step f9 (by omega) (by omega)
    have h6c : 6 ≤ c := Nat.le_of_not_lt (fun h => c40 (nI_lt (b := 6) h (by decide)))
    have hss : lpS U n 15 P s = rnt s1 3 (tS0 U n (Re s)) := by
      unfold lpS lw1
      rw [← hs1]
      unfold lstP
      by_cases hf0 : Rf s1 = 0
      · have hcP := hcP (hf1.symm.trans hf0)
        exact if_pos ⟨by decide, by decide, by omega⟩
      · rw [rnt_f hf0, if_neg (show ¬ (15 = 20 ∧ P.1 = 0) by omega)]
        exact ite_self _
    obtain ⟨s2, hs2⟩ : ∃ q, q = lpS U n 15 P s := ⟨_, rfl⟩
    rw [← hss, ← hs2] at hst
    have hok : Rok U n s2 := by
      rw [hs2]
      unfold lpS lw1
      rw [← hs1]
      exact lstP_ok hok ha0
    refine Ev.aload_n rfl rfl ?_
    refine Ev.iconst (v := 0) rfl (by decide) ?_
    refine Ev.iconst (v := 4) rfl (by decide) ?_
    refine Ev.xV2 rfl rfl m0 rfl rfl (by decide) ⟨(Nat.le_refl _), (Nat.le_refl _)⟩ (m_numb_ok m0 m_all ht hA0 hst hok (lo := 0) (G := fun v => decide (0 ≤ v) && decide (v ≤ 4)) (K_in_G ⟨by decide, by decide⟩)) (fun τ903 f9 q9 => ?_)
    obtain ⟨g903, A903, m0, m_all, hst⟩ := q9
    have m_read := frm.cell f9 m_read (by omega)
    have m_has := frm.cell f9 m_has (by omega)
    have fr := fr.step f9 (by omega) (by omega)
    obtain ⟨s3, hs3⟩ : ∃ q, q = nst U n ((fun v => decide (0 ≤ v) && decide (v ≤ 4)) (tV U n (Re s2))) s2 := ⟨_, rfl⟩
    obtain ⟨ab3, hab3⟩ : ∃ q, q = rab U n (fun v => decide (0 ≤ v) && decide (v ≤ 4)) true s2 := ⟨_, rfl⟩
    obtain ⟨v3, hv3⟩ : ∃ q, q = rvl U n 0 (fun v => decide (0 ≤ v) && decide (v ≤ 4)) s2 := ⟨_, rfl⟩
    rw [← hs3, ← hab3] at hst
    rw [← hv3]
    have hok : Rok U n s3 := by
      rw [hs3]
      exact nst_ok ht hok
    have hr3 := rvl_le (U := U) (n := n) (lo := 0) (hi := 4) (s := s2) (by decide)
    rw [← hv3] at hr3
    refine Ev.istore_n rfl rfl rfl ?_
    refine Ev.aload_n rfl rfl ?_
    refine Ev.iconst (v := 0) rfl (by decide) ?_
    refine Ev.iconst (v := 5) rfl (by decide) ?_
    refine Ev.xV2 rfl rfl m0 rfl rfl (by decide) ⟨(Nat.le_refl _), (Nat.le_refl _)⟩ (m_numb_ok m0 m_all ht hA0 hst hok (lo := 0) (G := fun v => decide (0 ≤ v) && decide (v ≤ 5)) (K_in_G ⟨by decide, by decide⟩)) (fun τ904 f9 q9 => ?_)
    obtain ⟨g904, A904, m0, m_all, hst⟩ := q9
    have m_read := frm.cell f9 m_read (by omega)
    have m_has := frm.cell f9 m_has (by omega)
    have fr := fr.step f9 (by omega) (by omega)
    obtain ⟨s4, hs4⟩ : ∃ q, q = nst U n ((fun v => decide (0 ≤ v) && decide (v ≤ 5)) (tV U n (Re s3))) s3 := ⟨_, rfl⟩
    obtain ⟨ab4, hab4⟩ : ∃ q, q = rab U n (fun v => decide (0 ≤ v) && decide (v ≤ 5)) ab3 s3 := ⟨_, rfl⟩
    obtain ⟨v4, hv4⟩ : ∃ q, q = rvl U n 0 (fun v => decide (0 ≤ v) && decide (v ≤ 5)) s3 := ⟨_, rfl⟩
    rw [← hs4, ← hab4] at hst
    rw [← hv4]
    have hok : Rok U n s4 := by
      rw [hs4]
      exact nst_ok ht hok
    have hr4 := rvl_le (U := U) (n := n) (lo := 0) (hi := 5) (s := s3) (by decide)
    rw [← hv4] at hr4
    refine Ev.istore rfl rfl rfl ?_
    refine Ev.aload_n rfl rfl ?_
    refine Ev.iconst (v := 0) rfl (by decide) ?_
    refine Ev.bipush (v := 11) rfl (by decide) ?_
    refine Ev.xV2 rfl rfl m0 rfl rfl (by decide) ⟨(Nat.le_refl _), (Nat.le_refl _)⟩ (m_numb_ok m0 m_all ht hA0 hst hok (lo := 0) (G := fun v => decide (0 ≤ v) && decide (v ≤ 11)) (K_in_G ⟨by decide, by decide⟩)) (fun τ905 f9 q9 => ?_)
    obtain ⟨g905, A905, m0, m_all, hst⟩ := q9
    have m_read := frm.cell f9 m_read (by omega)
    have m_has := frm.cell f9 m_has (by omega)
    have fr := fr.step f9 (by omega) (by omega)
    obtain ⟨s5, hs5⟩ : ∃ q, q = nst U n ((fun v => decide (0 ≤ v) && decide (v ≤ 11)) (tV U n (Re s4))) s4 := ⟨_, rfl⟩
    obtain ⟨ab5, hab5⟩ : ∃ q, q = rab U n (fun v => decide (0 ≤ v) && decide (v ≤ 11)) ab4 s4 := ⟨_, rfl⟩
    obtain ⟨v5, hv5⟩ : ∃ q, q = rvl U n 0 (fun v => decide (0 ≤ v) && decide (v ≤ 11)) s4 := ⟨_, rfl⟩
    rw [← hs5, ← hab5] at hst
    rw [← hv5]
    have hok : Rok U n s5 := by
      rw [hs5]
      exact nst_ok ht hok
    have hr5 := rvl_le (U := U) (n := n) (lo := 0) (hi := 11) (s := s4) (by decide)
    rw [← hv5] at hr5
    refine Ev.istore rfl rfl rfl ?_
    refine Ev.iload_n rfl rfl ?_
    refine Ev.bipush (v := 19) rfl (by decide) ?_
    refine Ev.jne (tgt := 89) rfl (by decide) (fun c76 => ?_) (fun c76 => absurd c76 (by decide))
    refine Ev.iconst (v := (-1)) rfl (by decide) ?_
    refine Ev.istore rfl rfl rfl ?_
    refine Ev.aload_n rfl rfl ?_
    refine Ev.getf rfl rfl m0 rfl ?_
    refine Ev.iconst (v := 0) rfl (by decide) ?_
    refine Ev.ialdN (k := 0) rfl m_read (rfl : (0 : Int32) = nI 0) ⟨(by omega), by decide⟩ ?_
    rw [show rd 0 = nI c from hrc]
    refine Ev.bipush (v := 6) rfl (by decide) ?_
    refine Ev.jge (tgt := 219) rfl (by decide) (fun c100 => ?_) (fun c100 => absurd c100 (nI_nlt h6c (by omega)))
    refine Ev.aload_n rfl rfl ?_
    refine Ev.getf rfl rfl m0 rfl ?_
    refine Ev.iconst (v := 0) rfl (by decide) ?_
    refine Ev.dup2 rfl rfl rfl ?_
    refine Ev.ialdN (k := 0) rfl m_read (rfl : (0 : Int32) = nI 0) ⟨(by omega), by decide⟩ ?_
    rw [show rd 0 = nI c from hrc]
    refine Ev.iconst (v := 1) rfl (by decide) ?_
    refine Ev.iadd rfl ?_
    rw [show (nI c) + (1 : Int32) = nI (c + 1) from (nq_add (a := c) (b := 1) rfl (rfl : (1 : Int32) = nI 1))]
    refine Ev.iastE (k := 0) rfl m_read (rfl : (0 : Int32) = nI 0) ⟨(by omega), by decide⟩ (fun τ8 f1 m_read => ?_)
    have m0 := frm.cell f1 m0 (by omega)
    have m_all := frm.cell f1 m_all (by omega)
    have m_has := frm.cell f1 m_has (by omega)
    have fr := fr.step f1 (by omega) (by omega)
    refine Ev.aload_n rfl rfl ?_
    refine Ev.xV0u rfl rfl m0 rfl rfl (by decide) ⟨(Nat.le_refl _), (Nat.le_refl _)⟩ (m_endsL_ok m0 m_all ht hA0 hst hok) (fun τ906 f9 q9 => ?_)
    obtain ⟨g906, A906, m0, m_all, hst⟩ := q9
    have m_read := frm.cell f9 m_read (by omega)
    have m_has := frm.cell f9 m_has (by omega)
    have fr := fr.step f9 (by omega) (by omega)
    refine Ev.ret rfl rfl (Nat.le_refl _) (Nat.le_refl _) ?_
    have hX : lpX U n 15 P s = s5 := by
      unfold lpX
      rw [← hs2]
      show chn U n 15 0 s2 3 = s5
      rw [hs5, hs4, hs3]
      rfl
    have hN : lpN U n 15 P s = nus U n 15 0 s2 := by
      unfold lpN
      rw [← hs2]
    rw [← hQ, hX, hN]
    refine ⟨rfl, fr, _, _, _, _, m0, m_all, m_read, m_has, hst, ?_, ?_⟩
    · exact pk_us
    · intro hw9 hf9
      rw [hs5] at hw9 hf9
      obtain ⟨w2, k2, f2, g2, -⟩ := nst_f0 hw9 hf9
      have q2 := f2
      have r2 := w2
      rw [hs4] at q2 r2
      obtain ⟨w1, k1, f1, g1, -⟩ := nst_f0 r2 q2
      have q1 := f1
      have r1 := w1
      rw [hs3] at q1 r1
      obtain ⟨w0, k0, f0, g0, -⟩ := nst_f0 r1 q1
      rw [hs2, hss] at f0
      exact absurd f0 (rnt_f0 (by decide))
theorem m_plL17_ok (m0 : σ.2 y = some (.inr (.inr (10, mo y g)))) (m_all : σ.2 (y + 1) = some (.inl (0, 4500, A))) {rd : Nat → Int32} (m_read : σ.2 (y + 3) = some (.inl (0, 120, rd))) (ht : txt U n) (hA0 : ∀ p, p < n → A0 (10 + p) = nI (U p)) (hst : MSt0 U n A0 A g s) (hok : Rok U n s) (hw : Rw s = false) (hk : tK U n (Re s) = 3) (hW : tW U n (Re s) = 17) (h6 : P.1 ≤ 6) {c : Nat} (hrc : rd 0 = nI c) (hcb : c ≤ 600) (hrd : Rf s = 0 → mP rd 0 P) : RetX Γ m_M_planLine [.ref y] σ y (y + 4) none (fun τ => ∃ (g1 A1 rd1 : Nat → Int32) (ab1 : Bool), τ.2 y = some (.inr (.inr (10, mo y g1))) ∧ τ.2 (y + 1) = some (.inl (0, 4500, A1)) ∧ τ.2 (y + 3) = some (.inl (0, 120, rd1)) ∧ τ.2 (y + 2) = σ.2 (y + 2) ∧ MSt U n A0 A1 g1 (rel U n (lpX U n 17 P s)) ab1 ∧ rd1 0 = nI (c + 1) ∧ (Rw (lpX U n 17 P s) = false → Rf (lpX U n 17 P s) = 0 → mP rd1 0 (LnP 17 (lpN U n 17 P s) P))) := by
  have hn6 := ht.1
  have h600 := tS0_le ht hok.1
  have hcP : Rf s = 0 → P.1 = c := fun f => nI_injL (by omega) (by omega) ((hrd f).1.symm.trans hrc)
  unfold RetX
  generalize hQ : ((fun (r0 : Option Value) (τ : ex_S) => r0 = none ∧ frm σ τ y (y + 4) ∧ (fun τ : ex_S => ∃ (g1 A1 rd1 : Nat → Int32) (ab1 : Bool), τ.2 y = some (.inr (.inr (10, mo y g1))) ∧ τ.2 (y + 1) = some (.inl (0, 4500, A1)) ∧ τ.2 (y + 3) = some (.inl (0, 120, rd1)) ∧ τ.2 (y + 2) = σ.2 (y + 2) ∧ MSt U n A0 A1 g1 (rel U n (lpX U n 17 P s)) ab1 ∧ rd1 0 = nI (c + 1) ∧ (Rw (lpX U n 17 P s) = false → Rf (lpX U n 17 P s) = 0 → mP rd1 0 (LnP 17 (lpN U n 17 P s) P))) τ)) = Q
  refine Ret.start pm_184 rfl ?_
  have fr : frm σ σ y (y + 4) := frm.rf
  have m_has : σ.2 (y + 2) = σ.2 (y + 2) := rfl
  refine Ev.aload_n rfl rfl ?_
  refine Ev.getf rfl rfl m0 rfl ?_
  rw [hst.2.2.2.1.2.1]
  refine Ev.istore_n rfl rfl rfl ?_
  refine Ev.aload_n rfl rfl ?_
  refine Ev.bipush (v := 15) rfl (by decide) ?_
  refine Ev.bipush (v := 20) rfl (by decide) ?_
  refine Ev.xV2 rfl rfl m0 rfl rfl (by decide) ⟨(Nat.le_refl _), (Nat.le_refl _)⟩ (m_takes0_y (fi := 15) (la := 20) m0 m_all ht hA0 hst hok hw (by decide) ⟨hk, by rw [hW]; decide, by rw [hW]; decide⟩) (fun τ901 f9 q9 => ?_)
  obtain ⟨g901, A901, m0, m_all, hst⟩ := q9
  have m_read := frm.cell f9 m_read (by omega)
  have m_has := frm.cell f9 m_has (by omega)
  have fr := fr.step f9 (by omega) (by omega)
  rw [show nI (tW U n (Re s)) = (17 : Int32) from by rw [hW]; rfl]
  obtain ⟨s1, hs1⟩ : ∃ q : Rs, q = (false, tE U n (Re s), Rf s, Rp s) := ⟨_, rfl⟩
  rw [← hs1] at hst
  have hw1 : Rw s1 = false := by rw [hs1]; rfl
  have he1 : Re s1 = tE U n (Re s) := by rw [hs1]; rfl
  have hf1 : Rf s1 = Rf s := by rw [hs1]; rfl
  have hp1 : Rp s1 = Rp s := by rw [hs1]; rfl
  have hok0 := hok
  have hok : Rok U n s1 := by rw [hs1]; exact lw1_ok ht hok (by omega) hw
  have ha0 : tS0 U n (Re s) < tS0 U n (Re s1) := by rw [he1]; exact tE_st ht hok0.1 (by omega)
  have hpa : Rw s1 = false → ¬ Rf s1 = 0 → ∃ q, Rp s1 = nI q ∧ q < tS0 U n (Re s) := fun _ c => by
    rw [hp1]
    exact hok0.2.2 hw (by rw [← hf1]; exact c)
  refine Ev.istore_n rfl rfl rfl ?_
  refine Ev.iload_n rfl rfl ?_
  refine Ev.bipush (v := 20) rfl (by decide) ?_
  refine Ev.jne (tgt := 28) rfl (by decide) (fun c17 => ?_) (fun c17 => absurd c17 (by decide))
  refine Ev.iload_n rfl rfl ?_
  refine Ev.zle (tgt := 229) rfl (by decide) (fun c29 => absurd (by decide) c29) (fun c29 => ?_)
  refine Ev.aload_n rfl rfl ?_
  refine Ev.getf rfl rfl m0 rfl ?_
  refine Ev.iconst (v := 0) rfl (by decide) ?_
  refine Ev.ialdN (k := 0) rfl m_read (rfl : (0 : Int32) = nI 0) ⟨(by omega), by decide⟩ ?_
  rw [show rd 0 = nI c from hrc]
  refine Ev.bipush (v := 6) rfl (by decide) ?_
  refine Ev.jlt (tgt := 49) rfl (by decide) (fun c40 => ?_) (fun c40 => ?_)
  · skip
    have h6c : c < 6 := (nI_ltI (a := c) (b := 6) (by omega) (by decide)).mp c40
    have hss : lpS U n 17 P s = s1 := by
      unfold lpS lw1
      rw [← hs1]
      unfold lstP
      by_cases hf0 : Rf s1 = 0
      · have hcP := hcP (hf1.symm.trans hf0)
        rw [if_neg (by omega)]
        exact if_neg (by omega)
      · rw [rnt_f hf0, if_neg (show ¬ (17 = 20 ∧ P.1 = 0) by omega)]
        exact ite_self _
    obtain ⟨s2, hs2⟩ : ∃ q, q = lpS U n 17 P s := ⟨_, rfl⟩
    rw [← hss, ← hs2] at hst
    have hok : Rok U n s2 := by
      rw [hs2]
      unfold lpS lw1
      rw [← hs1]
      exact lstP_ok hok ha0
    refine Ev.aload_n rfl rfl ?_
    refine Ev.iconst (v := 0) rfl (by decide) ?_
    refine Ev.iconst (v := 4) rfl (by decide) ?_
    refine Ev.xV2 rfl rfl m0 rfl rfl (by decide) ⟨(Nat.le_refl _), (Nat.le_refl _)⟩ (m_numb_ok m0 m_all ht hA0 hst hok (lo := 0) (G := fun v => decide (0 ≤ v) && decide (v ≤ 4)) (K_in_G ⟨by decide, by decide⟩)) (fun τ902 f9 q9 => ?_)
    obtain ⟨g902, A902, m0, m_all, hst⟩ := q9
    have m_read := frm.cell f9 m_read (by omega)
    have m_has := frm.cell f9 m_has (by omega)
    have fr := fr.step f9 (by omega) (by omega)
    obtain ⟨s3, hs3⟩ : ∃ q, q = nst U n ((fun v => decide (0 ≤ v) && decide (v ≤ 4)) (tV U n (Re s2))) s2 := ⟨_, rfl⟩
    obtain ⟨ab3, hab3⟩ : ∃ q, q = rab U n (fun v => decide (0 ≤ v) && decide (v ≤ 4)) true s2 := ⟨_, rfl⟩
    obtain ⟨v3, hv3⟩ : ∃ q, q = rvl U n 0 (fun v => decide (0 ≤ v) && decide (v ≤ 4)) s2 := ⟨_, rfl⟩
    rw [← hs3, ← hab3] at hst
    rw [← hv3]
    have hok : Rok U n s3 := by
      rw [hs3]
      exact nst_ok ht hok
    have hr3 := rvl_le (U := U) (n := n) (lo := 0) (hi := 4) (s := s2) (by decide)
    rw [← hv3] at hr3
    refine Ev.istore_n rfl rfl rfl ?_
    refine Ev.aload_n rfl rfl ?_
    refine Ev.iconst (v := 0) rfl (by decide) ?_
    refine Ev.iconst (v := 5) rfl (by decide) ?_
    refine Ev.xV2 rfl rfl m0 rfl rfl (by decide) ⟨(Nat.le_refl _), (Nat.le_refl _)⟩ (m_numb_ok m0 m_all ht hA0 hst hok (lo := 0) (G := fun v => decide (0 ≤ v) && decide (v ≤ 5)) (K_in_G ⟨by decide, by decide⟩)) (fun τ903 f9 q9 => ?_)
    obtain ⟨g903, A903, m0, m_all, hst⟩ := q9
    have m_read := frm.cell f9 m_read (by omega)
    have m_has := frm.cell f9 m_has (by omega)
    have fr := fr.step f9 (by omega) (by omega)
    obtain ⟨s4, hs4⟩ : ∃ q, q = nst U n ((fun v => decide (0 ≤ v) && decide (v ≤ 5)) (tV U n (Re s3))) s3 := ⟨_, rfl⟩
    obtain ⟨ab4, hab4⟩ : ∃ q, q = rab U n (fun v => decide (0 ≤ v) && decide (v ≤ 5)) ab3 s3 := ⟨_, rfl⟩
    obtain ⟨v4, hv4⟩ : ∃ q, q = rvl U n 0 (fun v => decide (0 ≤ v) && decide (v ≤ 5)) s3 := ⟨_, rfl⟩
    rw [← hs4, ← hab4] at hst
    rw [← hv4]
    have hok : Rok U n s4 := by
      rw [hs4]
      exact nst_ok ht hok
    have hr4 := rvl_le (U := U) (n := n) (lo := 0) (hi := 5) (s := s3) (by decide)
    rw [← hv4] at hr4
    refine Ev.istore rfl rfl rfl ?_
    refine Ev.aload_n rfl rfl ?_
    refine Ev.iconst (v := 0) rfl (by decide) ?_
    refine Ev.bipush (v := 11) rfl (by decide) ?_
    refine Ev.xV2 rfl rfl m0 rfl rfl (by decide) ⟨(Nat.le_refl _), (Nat.le_refl _)⟩ (m_numb_ok m0 m_all ht hA0 hst hok (lo := 0) (G := fun v => decide (0 ≤ v) && decide (v ≤ 11)) (K_in_G ⟨by decide, by decide⟩)) (fun τ904 f9 q9 => ?_)
    obtain ⟨g904, A904, m0, m_all, hst⟩ := q9
    have m_read := frm.cell f9 m_read (by omega)
    have m_has := frm.cell f9 m_has (by omega)
    have fr := fr.step f9 (by omega) (by omega)
    obtain ⟨s5, hs5⟩ : ∃ q, q = nst U n ((fun v => decide (0 ≤ v) && decide (v ≤ 11)) (tV U n (Re s4))) s4 := ⟨_, rfl⟩
    obtain ⟨ab5, hab5⟩ : ∃ q, q = rab U n (fun v => decide (0 ≤ v) && decide (v ≤ 11)) ab4 s4 := ⟨_, rfl⟩
    obtain ⟨v5, hv5⟩ : ∃ q, q = rvl U n 0 (fun v => decide (0 ≤ v) && decide (v ≤ 11)) s4 := ⟨_, rfl⟩
    rw [← hs5, ← hab5] at hst
    rw [← hv5]
    have hok : Rok U n s5 := by
      rw [hs5]
      exact nst_ok ht hok
    have hr5 := rvl_le (U := U) (n := n) (lo := 0) (hi := 11) (s := s4) (by decide)
    rw [← hv5] at hr5
    refine Ev.istore rfl rfl rfl ?_
    refine Ev.iload_n rfl rfl ?_
    refine Ev.bipush (v := 19) rfl (by decide) ?_
    refine Ev.jne (tgt := 89) rfl (by decide) (fun c76 => ?_) (fun c76 => absurd c76 (by decide))
    refine Ev.iconst (v := (-1)) rfl (by decide) ?_
    refine Ev.istore rfl rfl rfl ?_
    refine Ev.aload_n rfl rfl ?_
    refine Ev.getf rfl rfl m0 rfl ?_
    refine Ev.iconst (v := 0) rfl (by decide) ?_
    refine Ev.ialdN (k := 0) rfl m_read (rfl : (0 : Int32) = nI 0) ⟨(by omega), by decide⟩ ?_
    rw [show rd 0 = nI c from hrc]
    refine Ev.bipush (v := 6) rfl (by decide) ?_
    refine Ev.jge (tgt := 219) rfl (by decide) (fun c100 => absurd (nI_lt (b := 6) h6c (by decide)) c100) (fun c100 => ?_)
    refine Ev.iconst (v := 1) rfl (by decide) ?_
    refine Ev.bipush (v := 6) rfl (by decide) ?_
    refine Ev.aload_n rfl rfl ?_
    refine Ev.getf rfl rfl m0 rfl ?_
    refine Ev.iconst (v := 0) rfl (by decide) ?_
    refine Ev.ialdN (k := 0) rfl m_read (rfl : (0 : Int32) = nI 0) ⟨(by omega), by decide⟩ ?_
    rw [show rd 0 = nI c from hrc]
    refine Ev.imul rfl ?_
    refine Ev.iadd rfl ?_
    rw [show (1 : Int32) + ((6 : Int32) * (nI c)) = nI (1 + (6 * c)) from (nq_add (a := 1) (b := 6 * c) (rfl : (1 : Int32) = nI 1) (nq_mul (a := 6) (b := c) (rfl : (6 : Int32) = nI 6) rfl))]
    refine Ev.istore rfl rfl rfl ?_
    refine Ev.aload_n rfl rfl ?_
    refine Ev.getf rfl rfl m0 rfl ?_
    refine Ev.iload rfl rfl ?_
    refine Ev.iconst (v := 0) rfl (by decide) ?_
    refine Ev.iadd rfl ?_
    refine Ev.iload_n rfl rfl ?_
    refine Ev.bipush (v := 16) rfl (by decide) ?_
    refine Ev.jne (tgt := 134) rfl (by decide) (fun c127 => ?_) (fun c127 => absurd c127 (by decide))
    refine Ev.iload_n rfl rfl ?_
    refine Ev.bipush (v := 19) rfl (by decide) ?_
    refine Ev.jne (tgt := 144) rfl (by decide) (fun c137 => ?_) (fun c137 => absurd c137 (by decide))
    refine Ev.iload_n rfl rfl ?_
    refine Ev.bipush (v := 17) rfl (by decide) ?_
    refine Ev.jne (tgt := 154) rfl (by decide) (fun c147 => absurd (by decide) c147) (fun c147 => ?_)
    refine Ev.iconst (v := 2) rfl (by decide) ?_
    refine Ev.goto (tgt := 165) rfl (by decide) ?_
    refine Ev.iastE (k := 1 + (6 * c) + 0) rfl m_read (nq_add (a := 1 + (6 * c)) (b := 0) rfl (rfl : (0 : Int32) = nI 0)) ⟨(by omega), by decide⟩ (fun τ1 f1 m_read => ?_)
    have m0 := frm.cell f1 m0 (by omega)
    have m_all := frm.cell f1 m_all (by omega)
    have m_has := frm.cell f1 m_has (by omega)
    have fr := fr.step f1 (by omega) (by omega)
    refine Ev.aload_n rfl rfl ?_
    refine Ev.getf rfl rfl m0 rfl ?_
    refine Ev.iload rfl rfl ?_
    refine Ev.iconst (v := 1) rfl (by decide) ?_
    refine Ev.iadd rfl ?_
    refine Ev.iload_n rfl rfl ?_
    refine Ev.iastE (k := 1 + (6 * c) + 1) rfl m_read (nq_add (a := 1 + (6 * c)) (b := 1) rfl (rfl : (1 : Int32) = nI 1)) ⟨(by omega), by decide⟩ (fun τ2 f1 m_read => ?_)
    have m0 := frm.cell f1 m0 (by omega)
    have m_all := frm.cell f1 m_all (by omega)
    have m_has := frm.cell f1 m_has (by omega)
    have fr := fr.step f1 (by omega) (by omega)
    refine Ev.aload_n rfl rfl ?_
    refine Ev.getf rfl rfl m0 rfl ?_
    refine Ev.iload rfl rfl ?_
    refine Ev.iconst (v := 2) rfl (by decide) ?_
    refine Ev.iadd rfl ?_
    refine Ev.iload rfl rfl ?_
    refine Ev.iastE (k := 1 + (6 * c) + 2) rfl m_read (nq_add (a := 1 + (6 * c)) (b := 2) rfl (rfl : (2 : Int32) = nI 2)) ⟨(by omega), by decide⟩ (fun τ3 f1 m_read => ?_)
    have m0 := frm.cell f1 m0 (by omega)
    have m_all := frm.cell f1 m_all (by omega)
    have m_has := frm.cell f1 m_has (by omega)
    have fr := fr.step f1 (by omega) (by omega)
    refine Ev.aload_n rfl rfl ?_
    refine Ev.getf rfl rfl m0 rfl ?_
    refine Ev.iload rfl rfl ?_
    refine Ev.iconst (v := 3) rfl (by decide) ?_
    refine Ev.iadd rfl ?_
    refine Ev.iload rfl rfl ?_
    refine Ev.iastE (k := 1 + (6 * c) + 3) rfl m_read (nq_add (a := 1 + (6 * c)) (b := 3) rfl (rfl : (3 : Int32) = nI 3)) ⟨(by omega), by decide⟩ (fun τ4 f1 m_read => ?_)
    have m0 := frm.cell f1 m0 (by omega)
    have m_all := frm.cell f1 m_all (by omega)
    have m_has := frm.cell f1 m_has (by omega)
    have fr := fr.step f1 (by omega) (by omega)
    refine Ev.aload_n rfl rfl ?_
    refine Ev.getf rfl rfl m0 rfl ?_
    refine Ev.iload rfl rfl ?_
    refine Ev.iconst (v := 4) rfl (by decide) ?_
    refine Ev.iadd rfl ?_
    refine Ev.iload rfl rfl ?_
    refine Ev.iastE (k := 1 + (6 * c) + 4) rfl m_read (nq_add (a := 1 + (6 * c)) (b := 4) rfl (rfl : (4 : Int32) = nI 4)) ⟨(by omega), by decide⟩ (fun τ5 f1 m_read => ?_)
    have m0 := frm.cell f1 m0 (by omega)
    have m_all := frm.cell f1 m_all (by omega)
    have m_has := frm.cell f1 m_has (by omega)
    have fr := fr.step f1 (by omega) (by omega)
    refine Ev.aload_n rfl rfl ?_
    refine Ev.getf rfl rfl m0 rfl ?_
    refine Ev.iload rfl rfl ?_
    refine Ev.iconst (v := 5) rfl (by decide) ?_
    refine Ev.iadd rfl ?_
    refine Ev.iconst (v := 0) rfl (by decide) ?_
    refine Ev.iastE (k := 1 + (6 * c) + 5) rfl m_read (nq_add (a := 1 + (6 * c)) (b := 5) rfl (rfl : (5 : Int32) = nI 5)) ⟨(by omega), by decide⟩ (fun τ6 f1 m_read => ?_)
    have m0 := frm.cell f1 m0 (by omega)
    have m_all := frm.cell f1 m_all (by omega)
    have m_has := frm.cell f1 m_has (by omega)
    have fr := fr.step f1 (by omega) (by omega)
    refine Ev.aload_n rfl rfl ?_
    refine Ev.getf rfl rfl m0 rfl ?_
    refine Ev.iconst (v := 0) rfl (by decide) ?_
    refine Ev.dup2 rfl rfl rfl ?_
    refine Ev.ialdN (k := 0) rfl m_read (rfl : (0 : Int32) = nI 0) ⟨(by omega), by decide⟩ ?_
    rw [show (upd (upd (upd (upd (upd (upd rd (1 + (6 * c) + 0) (2 : Int32)) (1 + (6 * c) + 1) (nI v3)) (1 + (6 * c) + 2) (nI v4)) (1 + (6 * c) + 3) (nI v5)) (1 + (6 * c) + 4) (-1 : Int32)) (1 + (6 * c) + 5) (0 : Int32)) 0 = nI c from (pk_un (by omega)).trans ((pk_un (by omega)).trans ((pk_un (by omega)).trans ((pk_un (by omega)).trans ((pk_un (by omega)).trans ((pk_un (by omega)).trans (hrc))))))]
    refine Ev.iconst (v := 1) rfl (by decide) ?_
    refine Ev.iadd rfl ?_
    rw [show (nI c) + (1 : Int32) = nI (c + 1) from (nq_add (a := c) (b := 1) rfl (rfl : (1 : Int32) = nI 1))]
    refine Ev.iastE (k := 0) rfl m_read (rfl : (0 : Int32) = nI 0) ⟨(by omega), by decide⟩ (fun τ7 f1 m_read => ?_)
    have m0 := frm.cell f1 m0 (by omega)
    have m_all := frm.cell f1 m_all (by omega)
    have m_has := frm.cell f1 m_has (by omega)
    have fr := fr.step f1 (by omega) (by omega)
    refine Ev.aload_n rfl rfl ?_
    refine Ev.xV0u rfl rfl m0 rfl rfl (by decide) ⟨(Nat.le_refl _), (Nat.le_refl _)⟩ (m_endsL_ok m0 m_all ht hA0 hst hok) (fun τ905 f9 q9 => ?_)
    obtain ⟨g905, A905, m0, m_all, hst⟩ := q9
    have m_read := frm.cell f9 m_read (by omega)
    have m_has := frm.cell f9 m_has (by omega)
    have fr := fr.step f9 (by omega) (by omega)
    refine Ev.ret rfl rfl (Nat.le_refl _) (Nat.le_refl _) ?_
    have hX : lpX U n 17 P s = s5 := by
      unfold lpX
      rw [← hs2]
      show chn U n 17 0 s2 3 = s5
      rw [hs5, hs4, hs3]
      rfl
    have hN : lpN U n 17 P s = nus U n 17 0 s2 := by
      unfold lpN
      rw [← hs2]
    rw [← hQ, hX, hN]
    refine ⟨rfl, fr, _, _, _, _, m0, m_all, m_read, m_has, hst, ?_, ?_⟩
    · exact pk_us
    · intro hw9 hf9
      rw [hs5] at hw9 hf9
      obtain ⟨w2, k2, f2, g2, -⟩ := nst_f0 hw9 hf9
      have q2 := f2
      have r2 := w2
      rw [hs4] at q2 r2
      obtain ⟨w1, k1, f1, g1, -⟩ := nst_f0 r2 q2
      have q1 := f1
      have r1 := w1
      rw [hs3] at q1 r1
      obtain ⟨w0, k0, f0, g0, -⟩ := nst_f0 r1 q1
      have fs := f0
      rw [hs2, hss] at fs
      have hm := hrd (hf1.symm.trans fs)
      have hcP := hcP (hf1.symm.trans fs)
      subst hcP
      have u0 : v3 = tV U n (Re s2) := by rw [hv3, rvl_ok w0 k0 g0]
      have n0 : v3 = nus U n 17 0 s2 0 := u0
      have u1 : v4 = tV U n (Re s3) := by rw [hv4, rvl_ok w1 k1 g1]
      have e1 : chn U n 17 0 s2 1 = s3 := by
        rw [hs3]
        rfl
      have n1 : v4 = nus U n 17 0 s2 1 := by
        unfold nus
        rw [e1]
        exact u1
      have u2 : v5 = tV U n (Re s4) := by rw [hv5, rvl_ok w2 k2 g2]
      have e2 : chn U n 17 0 s2 2 = s4 := by
        rw [hs4, hs3]
        rfl
      have n2 : v5 = nus U n 17 0 s2 2 := by
        unfold nus
        rw [e2]
        exact u2
      exact mP_k (d := 2) hm h6c rfl n0 n1 n2 (if_neg (by decide)).symm
  · skip
    refine Ev.aload_n rfl rfl ?_
    refine Ev.iconst (v := 3) rfl (by decide) ?_
    refine Ev.iload_n rfl rfl ?_
    refine Ev.xV2u rfl rfl m0 rfl rfl (by decide) ⟨(Nat.le_refl _), (Nat.le_refl _)⟩ (m_also_ok (k := 3) m0 m_all hst hok.2.1 (by decide) (by omega) (fun a b => by obtain ⟨q, q1, q2⟩ := hpa a b; exact ⟨q, q1, Or.inl q2⟩)) (fun τ902 f9 q9 => ?_)
    obtain ⟨g902, A902, m0, m_all, hst⟩ := q9
    have m_read := frm.cell f9 m_read (by omega)
    have m_has := frm.cell f9 m_has (by omega)
    have fr := fr.step f9 (by omega) (by omega)
    have h6c : 6 ≤ c := Nat.le_of_not_lt (fun h => c40 (nI_lt (b := 6) h (by decide)))
    have hss : lpS U n 17 P s = rnt s1 3 (tS0 U n (Re s)) := by
      unfold lpS lw1
      rw [← hs1]
      unfold lstP
      by_cases hf0 : Rf s1 = 0
      · have hcP := hcP (hf1.symm.trans hf0)
        exact if_pos ⟨by decide, by decide, by omega⟩
      · rw [rnt_f hf0, if_neg (show ¬ (17 = 20 ∧ P.1 = 0) by omega)]
        exact ite_self _
    obtain ⟨s2, hs2⟩ : ∃ q, q = lpS U n 17 P s := ⟨_, rfl⟩
    rw [← hss, ← hs2] at hst
    have hok : Rok U n s2 := by
      rw [hs2]
      unfold lpS lw1
      rw [← hs1]
      exact lstP_ok hok ha0
    refine Ev.aload_n rfl rfl ?_
    refine Ev.iconst (v := 0) rfl (by decide) ?_
    refine Ev.iconst (v := 4) rfl (by decide) ?_
    refine Ev.xV2 rfl rfl m0 rfl rfl (by decide) ⟨(Nat.le_refl _), (Nat.le_refl _)⟩ (m_numb_ok m0 m_all ht hA0 hst hok (lo := 0) (G := fun v => decide (0 ≤ v) && decide (v ≤ 4)) (K_in_G ⟨by decide, by decide⟩)) (fun τ903 f9 q9 => ?_)
    obtain ⟨g903, A903, m0, m_all, hst⟩ := q9
    have m_read := frm.cell f9 m_read (by omega)
    have m_has := frm.cell f9 m_has (by omega)
    have fr := fr.step f9 (by omega) (by omega)
    obtain ⟨s3, hs3⟩ : ∃ q, q = nst U n ((fun v => decide (0 ≤ v) && decide (v ≤ 4)) (tV U n (Re s2))) s2 := ⟨_, rfl⟩
    obtain ⟨ab3, hab3⟩ : ∃ q, q = rab U n (fun v => decide (0 ≤ v) && decide (v ≤ 4)) true s2 := ⟨_, rfl⟩
    obtain ⟨v3, hv3⟩ : ∃ q, q = rvl U n 0 (fun v => decide (0 ≤ v) && decide (v ≤ 4)) s2 := ⟨_, rfl⟩
    rw [← hs3, ← hab3] at hst
    rw [← hv3]
    have hok : Rok U n s3 := by
      rw [hs3]
      exact nst_ok ht hok
    have hr3 := rvl_le (U := U) (n := n) (lo := 0) (hi := 4) (s := s2) (by decide)
    rw [← hv3] at hr3
    refine Ev.istore_n rfl rfl rfl ?_
    refine Ev.aload_n rfl rfl ?_
    refine Ev.iconst (v := 0) rfl (by decide) ?_
    refine Ev.iconst (v := 5) rfl (by decide) ?_
    refine Ev.xV2 rfl rfl m0 rfl rfl (by decide) ⟨(Nat.le_refl _), (Nat.le_refl _)⟩ (m_numb_ok m0 m_all ht hA0 hst hok (lo := 0) (G := fun v => decide (0 ≤ v) && decide (v ≤ 5)) (K_in_G ⟨by decide, by decide⟩)) (fun τ904 f9 q9 => ?_)
    obtain ⟨g904, A904, m0, m_all, hst⟩ := q9
    have m_read := frm.cell f9 m_read (by omega)
    have m_has := frm.cell f9 m_has (by omega)
    have fr := fr.step f9 (by omega) (by omega)
    obtain ⟨s4, hs4⟩ : ∃ q, q = nst U n ((fun v => decide (0 ≤ v) && decide (v ≤ 5)) (tV U n (Re s3))) s3 := ⟨_, rfl⟩
    obtain ⟨ab4, hab4⟩ : ∃ q, q = rab U n (fun v => decide (0 ≤ v) && decide (v ≤ 5)) ab3 s3 := ⟨_, rfl⟩
    obtain ⟨v4, hv4⟩ : ∃ q, q = rvl U n 0 (fun v => decide (0 ≤ v) && decide (v ≤ 5)) s3 := ⟨_, rfl⟩
    rw [← hs4, ← hab4] at hst
    rw [← hv4]
    have hok : Rok U n s4 := by
      rw [hs4]
      exact nst_ok ht hok
    have hr4 := rvl_le (U := U) (n := n) (lo := 0) (hi := 5) (s := s3) (by decide)
    rw [← hv4] at hr4
    refine Ev.istore rfl rfl rfl ?_
    refine Ev.aload_n rfl rfl ?_
    refine Ev.iconst (v := 0) rfl (by decide) ?_
    refine Ev.bipush (v := 11) rfl (by decide) ?_
    refine Ev.xV2 rfl rfl m0 rfl rfl (by decide) ⟨(Nat.le_refl _), (Nat.le_refl _)⟩ (m_numb_ok m0 m_all ht hA0 hst hok (lo := 0) (G := fun v => decide (0 ≤ v) && decide (v ≤ 11)) (K_in_G ⟨by decide, by decide⟩)) (fun τ905 f9 q9 => ?_)
    obtain ⟨g905, A905, m0, m_all, hst⟩ := q9
    have m_read := frm.cell f9 m_read (by omega)
    have m_has := frm.cell f9 m_has (by omega)
    have fr := fr.step f9 (by omega) (by omega)
    obtain ⟨s5, hs5⟩ : ∃ q, q = nst U n ((fun v => decide (0 ≤ v) && decide (v ≤ 11)) (tV U n (Re s4))) s4 := ⟨_, rfl⟩
    obtain ⟨ab5, hab5⟩ : ∃ q, q = rab U n (fun v => decide (0 ≤ v) && decide (v ≤ 11)) ab4 s4 := ⟨_, rfl⟩
    obtain ⟨v5, hv5⟩ : ∃ q, q = rvl U n 0 (fun v => decide (0 ≤ v) && decide (v ≤ 11)) s4 := ⟨_, rfl⟩
    rw [← hs5, ← hab5] at hst
    rw [← hv5]
    have hok : Rok U n s5 := by
      rw [hs5]
      exact nst_ok ht hok
    have hr5 := rvl_le (U := U) (n := n) (lo := 0) (hi := 11) (s := s4) (by decide)
    rw [← hv5] at hr5
    refine Ev.istore rfl rfl rfl ?_
    refine Ev.iload_n rfl rfl ?_
    refine Ev.bipush (v := 19) rfl (by decide) ?_
    refine Ev.jne (tgt := 89) rfl (by decide) (fun c76 => ?_) (fun c76 => absurd c76 (by decide))
    refine Ev.iconst (v := (-1)) rfl (by decide) ?_
    refine Ev.istore rfl rfl rfl ?_
    refine Ev.aload_n rfl rfl ?_
    refine Ev.getf rfl rfl m0 rfl ?_
    refine Ev.iconst (v := 0) rfl (by decide) ?_
    refine Ev.ialdN (k := 0) rfl m_read (rfl : (0 : Int32) = nI 0) ⟨(by omega), by decide⟩ ?_
    rw [show rd 0 = nI c from hrc]
    refine Ev.bipush (v := 6) rfl (by decide) ?_
    refine Ev.jge (tgt := 219) rfl (by decide) (fun c100 => ?_) (fun c100 => absurd c100 (nI_nlt h6c (by omega)))
    refine Ev.aload_n rfl rfl ?_
    refine Ev.getf rfl rfl m0 rfl ?_
    refine Ev.iconst (v := 0) rfl (by decide) ?_
    refine Ev.dup2 rfl rfl rfl ?_
    refine Ev.ialdN (k := 0) rfl m_read (rfl : (0 : Int32) = nI 0) ⟨(by omega), by decide⟩ ?_
    rw [show rd 0 = nI c from hrc]
    refine Ev.iconst (v := 1) rfl (by decide) ?_
    refine Ev.iadd rfl ?_
    rw [show (nI c) + (1 : Int32) = nI (c + 1) from (nq_add (a := c) (b := 1) rfl (rfl : (1 : Int32) = nI 1))]
    refine Ev.iastE (k := 0) rfl m_read (rfl : (0 : Int32) = nI 0) ⟨(by omega), by decide⟩ (fun τ8 f1 m_read => ?_)
    have m0 := frm.cell f1 m0 (by omega)
    have m_all := frm.cell f1 m_all (by omega)
    have m_has := frm.cell f1 m_has (by omega)
    have fr := fr.step f1 (by omega) (by omega)
    refine Ev.aload_n rfl rfl ?_
    refine Ev.xV0u rfl rfl m0 rfl rfl (by decide) ⟨(Nat.le_refl _), (Nat.le_refl _)⟩ (m_endsL_ok m0 m_all ht hA0 hst hok) (fun τ906 f9 q9 => ?_)
    obtain ⟨g906, A906, m0, m_all, hst⟩ := q9
    have m_read := frm.cell f9 m_read (by omega)
    have m_has := frm.cell f9 m_has (by omega)
    have fr := fr.step f9 (by omega) (by omega)
    refine Ev.ret rfl rfl (Nat.le_refl _) (Nat.le_refl _) ?_
    have hX : lpX U n 17 P s = s5 := by
      unfold lpX
      rw [← hs2]
      show chn U n 17 0 s2 3 = s5
      rw [hs5, hs4, hs3]
      rfl
    have hN : lpN U n 17 P s = nus U n 17 0 s2 := by
      unfold lpN
      rw [← hs2]
    rw [← hQ, hX, hN]
    refine ⟨rfl, fr, _, _, _, _, m0, m_all, m_read, m_has, hst, ?_, ?_⟩
    · exact pk_us
    · intro hw9 hf9
      rw [hs5] at hw9 hf9
      obtain ⟨w2, k2, f2, g2, -⟩ := nst_f0 hw9 hf9
      have q2 := f2
      have r2 := w2
      rw [hs4] at q2 r2
      obtain ⟨w1, k1, f1, g1, -⟩ := nst_f0 r2 q2
      have q1 := f1
      have r1 := w1
      rw [hs3] at q1 r1
      obtain ⟨w0, k0, f0, g0, -⟩ := nst_f0 r1 q1
      rw [hs2, hss] at f0
      exact absurd f0 (rnt_f0 (by decide))
theorem m_plL19_ok (m0 : σ.2 y = some (.inr (.inr (10, mo y g)))) (m_all : σ.2 (y + 1) = some (.inl (0, 4500, A))) {rd : Nat → Int32} (m_read : σ.2 (y + 3) = some (.inl (0, 120, rd))) (ht : txt U n) (hA0 : ∀ p, p < n → A0 (10 + p) = nI (U p)) (hst : MSt0 U n A0 A g s) (hok : Rok U n s) (hw : Rw s = false) (hk : tK U n (Re s) = 3) (hW : tW U n (Re s) = 18) (h6 : P.1 ≤ 6) {c : Nat} (hrc : rd 0 = nI c) (hcb : c ≤ 600) (hrd : Rf s = 0 → mP rd 0 P) : RetX Γ m_M_planLine [.ref y] σ y (y + 4) none (fun τ => ∃ (g1 A1 rd1 : Nat → Int32) (ab1 : Bool), τ.2 y = some (.inr (.inr (10, mo y g1))) ∧ τ.2 (y + 1) = some (.inl (0, 4500, A1)) ∧ τ.2 (y + 3) = some (.inl (0, 120, rd1)) ∧ τ.2 (y + 2) = σ.2 (y + 2) ∧ MSt U n A0 A1 g1 (rel U n (lpX U n 19 P s)) ab1 ∧ rd1 0 = nI (c + 1) ∧ (Rw (lpX U n 19 P s) = false → Rf (lpX U n 19 P s) = 0 → mP rd1 0 (LnP 19 (lpN U n 19 P s) P))) := by
  have hn6 := ht.1
  have h600 := tS0_le ht hok.1
  have hcP : Rf s = 0 → P.1 = c := fun f => nI_injL (by omega) (by omega) ((hrd f).1.symm.trans hrc)
  unfold RetX
  generalize hQ : ((fun (r0 : Option Value) (τ : ex_S) => r0 = none ∧ frm σ τ y (y + 4) ∧ (fun τ : ex_S => ∃ (g1 A1 rd1 : Nat → Int32) (ab1 : Bool), τ.2 y = some (.inr (.inr (10, mo y g1))) ∧ τ.2 (y + 1) = some (.inl (0, 4500, A1)) ∧ τ.2 (y + 3) = some (.inl (0, 120, rd1)) ∧ τ.2 (y + 2) = σ.2 (y + 2) ∧ MSt U n A0 A1 g1 (rel U n (lpX U n 19 P s)) ab1 ∧ rd1 0 = nI (c + 1) ∧ (Rw (lpX U n 19 P s) = false → Rf (lpX U n 19 P s) = 0 → mP rd1 0 (LnP 19 (lpN U n 19 P s) P))) τ)) = Q
  refine Ret.start pm_184 rfl ?_
  have fr : frm σ σ y (y + 4) := frm.rf
  have m_has : σ.2 (y + 2) = σ.2 (y + 2) := rfl
  refine Ev.aload_n rfl rfl ?_
  refine Ev.getf rfl rfl m0 rfl ?_
  rw [hst.2.2.2.1.2.1]
  refine Ev.istore_n rfl rfl rfl ?_
  refine Ev.aload_n rfl rfl ?_
  refine Ev.bipush (v := 15) rfl (by decide) ?_
  refine Ev.bipush (v := 20) rfl (by decide) ?_
  refine Ev.xV2 rfl rfl m0 rfl rfl (by decide) ⟨(Nat.le_refl _), (Nat.le_refl _)⟩ (m_takes0_y (fi := 15) (la := 20) m0 m_all ht hA0 hst hok hw (by decide) ⟨hk, by rw [hW]; decide, by rw [hW]; decide⟩) (fun τ901 f9 q9 => ?_)
  obtain ⟨g901, A901, m0, m_all, hst⟩ := q9
  have m_read := frm.cell f9 m_read (by omega)
  have m_has := frm.cell f9 m_has (by omega)
  have fr := fr.step f9 (by omega) (by omega)
  rw [show nI (tW U n (Re s)) = (18 : Int32) from by rw [hW]; rfl]
  obtain ⟨s1, hs1⟩ : ∃ q : Rs, q = (false, tE U n (Re s), Rf s, Rp s) := ⟨_, rfl⟩
  rw [← hs1] at hst
  have hw1 : Rw s1 = false := by rw [hs1]; rfl
  have he1 : Re s1 = tE U n (Re s) := by rw [hs1]; rfl
  have hf1 : Rf s1 = Rf s := by rw [hs1]; rfl
  have hp1 : Rp s1 = Rp s := by rw [hs1]; rfl
  have hok0 := hok
  have hok : Rok U n s1 := by rw [hs1]; exact lw1_ok ht hok (by omega) hw
  have ha0 : tS0 U n (Re s) < tS0 U n (Re s1) := by rw [he1]; exact tE_st ht hok0.1 (by omega)
  have hpa : Rw s1 = false → ¬ Rf s1 = 0 → ∃ q, Rp s1 = nI q ∧ q < tS0 U n (Re s) := fun _ c => by
    rw [hp1]
    exact hok0.2.2 hw (by rw [← hf1]; exact c)
  refine Ev.istore_n rfl rfl rfl ?_
  refine Ev.iload_n rfl rfl ?_
  refine Ev.bipush (v := 20) rfl (by decide) ?_
  refine Ev.jne (tgt := 28) rfl (by decide) (fun c17 => ?_) (fun c17 => absurd c17 (by decide))
  refine Ev.iload_n rfl rfl ?_
  refine Ev.zle (tgt := 229) rfl (by decide) (fun c29 => absurd (by decide) c29) (fun c29 => ?_)
  refine Ev.aload_n rfl rfl ?_
  refine Ev.getf rfl rfl m0 rfl ?_
  refine Ev.iconst (v := 0) rfl (by decide) ?_
  refine Ev.ialdN (k := 0) rfl m_read (rfl : (0 : Int32) = nI 0) ⟨(by omega), by decide⟩ ?_
  rw [show rd 0 = nI c from hrc]
  refine Ev.bipush (v := 6) rfl (by decide) ?_
  refine Ev.jlt (tgt := 49) rfl (by decide) (fun c40 => ?_) (fun c40 => ?_)
  · skip
    have h6c : c < 6 := (nI_ltI (a := c) (b := 6) (by omega) (by decide)).mp c40
    have hss : lpS U n 19 P s = s1 := by
      unfold lpS lw1
      rw [← hs1]
      unfold lstP
      by_cases hf0 : Rf s1 = 0
      · have hcP := hcP (hf1.symm.trans hf0)
        rw [if_neg (by omega)]
        exact if_neg (by omega)
      · rw [rnt_f hf0, if_neg (show ¬ (19 = 20 ∧ P.1 = 0) by omega)]
        exact ite_self _
    obtain ⟨s2, hs2⟩ : ∃ q, q = lpS U n 19 P s := ⟨_, rfl⟩
    rw [← hss, ← hs2] at hst
    have hok : Rok U n s2 := by
      rw [hs2]
      unfold lpS lw1
      rw [← hs1]
      exact lstP_ok hok ha0
    refine Ev.aload_n rfl rfl ?_
    refine Ev.iconst (v := 0) rfl (by decide) ?_
    refine Ev.iconst (v := 4) rfl (by decide) ?_
    refine Ev.xV2 rfl rfl m0 rfl rfl (by decide) ⟨(Nat.le_refl _), (Nat.le_refl _)⟩ (m_numb_ok m0 m_all ht hA0 hst hok (lo := 0) (G := fun v => decide (0 ≤ v) && decide (v ≤ 4)) (K_in_G ⟨by decide, by decide⟩)) (fun τ902 f9 q9 => ?_)
    obtain ⟨g902, A902, m0, m_all, hst⟩ := q9
    have m_read := frm.cell f9 m_read (by omega)
    have m_has := frm.cell f9 m_has (by omega)
    have fr := fr.step f9 (by omega) (by omega)
    obtain ⟨s3, hs3⟩ : ∃ q, q = nst U n ((fun v => decide (0 ≤ v) && decide (v ≤ 4)) (tV U n (Re s2))) s2 := ⟨_, rfl⟩
    obtain ⟨ab3, hab3⟩ : ∃ q, q = rab U n (fun v => decide (0 ≤ v) && decide (v ≤ 4)) true s2 := ⟨_, rfl⟩
    obtain ⟨v3, hv3⟩ : ∃ q, q = rvl U n 0 (fun v => decide (0 ≤ v) && decide (v ≤ 4)) s2 := ⟨_, rfl⟩
    rw [← hs3, ← hab3] at hst
    rw [← hv3]
    have hok : Rok U n s3 := by
      rw [hs3]
      exact nst_ok ht hok
    have hr3 := rvl_le (U := U) (n := n) (lo := 0) (hi := 4) (s := s2) (by decide)
    rw [← hv3] at hr3
    refine Ev.istore_n rfl rfl rfl ?_
    refine Ev.aload_n rfl rfl ?_
    refine Ev.iconst (v := 0) rfl (by decide) ?_
    refine Ev.iconst (v := 5) rfl (by decide) ?_
    refine Ev.xV2 rfl rfl m0 rfl rfl (by decide) ⟨(Nat.le_refl _), (Nat.le_refl _)⟩ (m_numb_ok m0 m_all ht hA0 hst hok (lo := 0) (G := fun v => decide (0 ≤ v) && decide (v ≤ 5)) (K_in_G ⟨by decide, by decide⟩)) (fun τ903 f9 q9 => ?_)
    obtain ⟨g903, A903, m0, m_all, hst⟩ := q9
    have m_read := frm.cell f9 m_read (by omega)
    have m_has := frm.cell f9 m_has (by omega)
    have fr := fr.step f9 (by omega) (by omega)
    obtain ⟨s4, hs4⟩ : ∃ q, q = nst U n ((fun v => decide (0 ≤ v) && decide (v ≤ 5)) (tV U n (Re s3))) s3 := ⟨_, rfl⟩
    obtain ⟨ab4, hab4⟩ : ∃ q, q = rab U n (fun v => decide (0 ≤ v) && decide (v ≤ 5)) ab3 s3 := ⟨_, rfl⟩
    obtain ⟨v4, hv4⟩ : ∃ q, q = rvl U n 0 (fun v => decide (0 ≤ v) && decide (v ≤ 5)) s3 := ⟨_, rfl⟩
    rw [← hs4, ← hab4] at hst
    rw [← hv4]
    have hok : Rok U n s4 := by
      rw [hs4]
      exact nst_ok ht hok
    have hr4 := rvl_le (U := U) (n := n) (lo := 0) (hi := 5) (s := s3) (by decide)
    rw [← hv4] at hr4
    refine Ev.istore rfl rfl rfl ?_
    refine Ev.aload_n rfl rfl ?_
    refine Ev.iconst (v := 0) rfl (by decide) ?_
    refine Ev.bipush (v := 11) rfl (by decide) ?_
    refine Ev.xV2 rfl rfl m0 rfl rfl (by decide) ⟨(Nat.le_refl _), (Nat.le_refl _)⟩ (m_numb_ok m0 m_all ht hA0 hst hok (lo := 0) (G := fun v => decide (0 ≤ v) && decide (v ≤ 11)) (K_in_G ⟨by decide, by decide⟩)) (fun τ904 f9 q9 => ?_)
    obtain ⟨g904, A904, m0, m_all, hst⟩ := q9
    have m_read := frm.cell f9 m_read (by omega)
    have m_has := frm.cell f9 m_has (by omega)
    have fr := fr.step f9 (by omega) (by omega)
    obtain ⟨s5, hs5⟩ : ∃ q, q = nst U n ((fun v => decide (0 ≤ v) && decide (v ≤ 11)) (tV U n (Re s4))) s4 := ⟨_, rfl⟩
    obtain ⟨ab5, hab5⟩ : ∃ q, q = rab U n (fun v => decide (0 ≤ v) && decide (v ≤ 11)) ab4 s4 := ⟨_, rfl⟩
    obtain ⟨v5, hv5⟩ : ∃ q, q = rvl U n 0 (fun v => decide (0 ≤ v) && decide (v ≤ 11)) s4 := ⟨_, rfl⟩
    rw [← hs5, ← hab5] at hst
    rw [← hv5]
    have hok : Rok U n s5 := by
      rw [hs5]
      exact nst_ok ht hok
    have hr5 := rvl_le (U := U) (n := n) (lo := 0) (hi := 11) (s := s4) (by decide)
    rw [← hv5] at hr5
    refine Ev.istore rfl rfl rfl ?_
    refine Ev.iload_n rfl rfl ?_
    refine Ev.bipush (v := 19) rfl (by decide) ?_
    refine Ev.jne (tgt := 89) rfl (by decide) (fun c76 => ?_) (fun c76 => absurd c76 (by decide))
    refine Ev.iconst (v := (-1)) rfl (by decide) ?_
    refine Ev.istore rfl rfl rfl ?_
    refine Ev.aload_n rfl rfl ?_
    refine Ev.getf rfl rfl m0 rfl ?_
    refine Ev.iconst (v := 0) rfl (by decide) ?_
    refine Ev.ialdN (k := 0) rfl m_read (rfl : (0 : Int32) = nI 0) ⟨(by omega), by decide⟩ ?_
    rw [show rd 0 = nI c from hrc]
    refine Ev.bipush (v := 6) rfl (by decide) ?_
    refine Ev.jge (tgt := 219) rfl (by decide) (fun c100 => absurd (nI_lt (b := 6) h6c (by decide)) c100) (fun c100 => ?_)
    refine Ev.iconst (v := 1) rfl (by decide) ?_
    refine Ev.bipush (v := 6) rfl (by decide) ?_
    refine Ev.aload_n rfl rfl ?_
    refine Ev.getf rfl rfl m0 rfl ?_
    refine Ev.iconst (v := 0) rfl (by decide) ?_
    refine Ev.ialdN (k := 0) rfl m_read (rfl : (0 : Int32) = nI 0) ⟨(by omega), by decide⟩ ?_
    rw [show rd 0 = nI c from hrc]
    refine Ev.imul rfl ?_
    refine Ev.iadd rfl ?_
    rw [show (1 : Int32) + ((6 : Int32) * (nI c)) = nI (1 + (6 * c)) from (nq_add (a := 1) (b := 6 * c) (rfl : (1 : Int32) = nI 1) (nq_mul (a := 6) (b := c) (rfl : (6 : Int32) = nI 6) rfl))]
    refine Ev.istore rfl rfl rfl ?_
    refine Ev.aload_n rfl rfl ?_
    refine Ev.getf rfl rfl m0 rfl ?_
    refine Ev.iload rfl rfl ?_
    refine Ev.iconst (v := 0) rfl (by decide) ?_
    refine Ev.iadd rfl ?_
    refine Ev.iload_n rfl rfl ?_
    refine Ev.bipush (v := 16) rfl (by decide) ?_
    refine Ev.jne (tgt := 134) rfl (by decide) (fun c127 => ?_) (fun c127 => absurd c127 (by decide))
    refine Ev.iload_n rfl rfl ?_
    refine Ev.bipush (v := 19) rfl (by decide) ?_
    refine Ev.jne (tgt := 144) rfl (by decide) (fun c137 => ?_) (fun c137 => absurd c137 (by decide))
    refine Ev.iload_n rfl rfl ?_
    refine Ev.bipush (v := 17) rfl (by decide) ?_
    refine Ev.jne (tgt := 154) rfl (by decide) (fun c147 => ?_) (fun c147 => absurd c147 (by decide))
    refine Ev.iload_n rfl rfl ?_
    refine Ev.bipush (v := 15) rfl (by decide) ?_
    refine Ev.jne (tgt := 164) rfl (by decide) (fun c157 => ?_) (fun c157 => absurd c157 (by decide))
    refine Ev.iconst (v := 4) rfl (by decide) ?_
    refine Ev.iastE (k := 1 + (6 * c) + 0) rfl m_read (nq_add (a := 1 + (6 * c)) (b := 0) rfl (rfl : (0 : Int32) = nI 0)) ⟨(by omega), by decide⟩ (fun τ1 f1 m_read => ?_)
    have m0 := frm.cell f1 m0 (by omega)
    have m_all := frm.cell f1 m_all (by omega)
    have m_has := frm.cell f1 m_has (by omega)
    have fr := fr.step f1 (by omega) (by omega)
    refine Ev.aload_n rfl rfl ?_
    refine Ev.getf rfl rfl m0 rfl ?_
    refine Ev.iload rfl rfl ?_
    refine Ev.iconst (v := 1) rfl (by decide) ?_
    refine Ev.iadd rfl ?_
    refine Ev.iload_n rfl rfl ?_
    refine Ev.iastE (k := 1 + (6 * c) + 1) rfl m_read (nq_add (a := 1 + (6 * c)) (b := 1) rfl (rfl : (1 : Int32) = nI 1)) ⟨(by omega), by decide⟩ (fun τ2 f1 m_read => ?_)
    have m0 := frm.cell f1 m0 (by omega)
    have m_all := frm.cell f1 m_all (by omega)
    have m_has := frm.cell f1 m_has (by omega)
    have fr := fr.step f1 (by omega) (by omega)
    refine Ev.aload_n rfl rfl ?_
    refine Ev.getf rfl rfl m0 rfl ?_
    refine Ev.iload rfl rfl ?_
    refine Ev.iconst (v := 2) rfl (by decide) ?_
    refine Ev.iadd rfl ?_
    refine Ev.iload rfl rfl ?_
    refine Ev.iastE (k := 1 + (6 * c) + 2) rfl m_read (nq_add (a := 1 + (6 * c)) (b := 2) rfl (rfl : (2 : Int32) = nI 2)) ⟨(by omega), by decide⟩ (fun τ3 f1 m_read => ?_)
    have m0 := frm.cell f1 m0 (by omega)
    have m_all := frm.cell f1 m_all (by omega)
    have m_has := frm.cell f1 m_has (by omega)
    have fr := fr.step f1 (by omega) (by omega)
    refine Ev.aload_n rfl rfl ?_
    refine Ev.getf rfl rfl m0 rfl ?_
    refine Ev.iload rfl rfl ?_
    refine Ev.iconst (v := 3) rfl (by decide) ?_
    refine Ev.iadd rfl ?_
    refine Ev.iload rfl rfl ?_
    refine Ev.iastE (k := 1 + (6 * c) + 3) rfl m_read (nq_add (a := 1 + (6 * c)) (b := 3) rfl (rfl : (3 : Int32) = nI 3)) ⟨(by omega), by decide⟩ (fun τ4 f1 m_read => ?_)
    have m0 := frm.cell f1 m0 (by omega)
    have m_all := frm.cell f1 m_all (by omega)
    have m_has := frm.cell f1 m_has (by omega)
    have fr := fr.step f1 (by omega) (by omega)
    refine Ev.aload_n rfl rfl ?_
    refine Ev.getf rfl rfl m0 rfl ?_
    refine Ev.iload rfl rfl ?_
    refine Ev.iconst (v := 4) rfl (by decide) ?_
    refine Ev.iadd rfl ?_
    refine Ev.iload rfl rfl ?_
    refine Ev.iastE (k := 1 + (6 * c) + 4) rfl m_read (nq_add (a := 1 + (6 * c)) (b := 4) rfl (rfl : (4 : Int32) = nI 4)) ⟨(by omega), by decide⟩ (fun τ5 f1 m_read => ?_)
    have m0 := frm.cell f1 m0 (by omega)
    have m_all := frm.cell f1 m_all (by omega)
    have m_has := frm.cell f1 m_has (by omega)
    have fr := fr.step f1 (by omega) (by omega)
    refine Ev.aload_n rfl rfl ?_
    refine Ev.getf rfl rfl m0 rfl ?_
    refine Ev.iload rfl rfl ?_
    refine Ev.iconst (v := 5) rfl (by decide) ?_
    refine Ev.iadd rfl ?_
    refine Ev.iconst (v := 0) rfl (by decide) ?_
    refine Ev.iastE (k := 1 + (6 * c) + 5) rfl m_read (nq_add (a := 1 + (6 * c)) (b := 5) rfl (rfl : (5 : Int32) = nI 5)) ⟨(by omega), by decide⟩ (fun τ6 f1 m_read => ?_)
    have m0 := frm.cell f1 m0 (by omega)
    have m_all := frm.cell f1 m_all (by omega)
    have m_has := frm.cell f1 m_has (by omega)
    have fr := fr.step f1 (by omega) (by omega)
    refine Ev.aload_n rfl rfl ?_
    refine Ev.getf rfl rfl m0 rfl ?_
    refine Ev.iconst (v := 0) rfl (by decide) ?_
    refine Ev.dup2 rfl rfl rfl ?_
    refine Ev.ialdN (k := 0) rfl m_read (rfl : (0 : Int32) = nI 0) ⟨(by omega), by decide⟩ ?_
    rw [show (upd (upd (upd (upd (upd (upd rd (1 + (6 * c) + 0) (4 : Int32)) (1 + (6 * c) + 1) (nI v3)) (1 + (6 * c) + 2) (nI v4)) (1 + (6 * c) + 3) (nI v5)) (1 + (6 * c) + 4) (-1 : Int32)) (1 + (6 * c) + 5) (0 : Int32)) 0 = nI c from (pk_un (by omega)).trans ((pk_un (by omega)).trans ((pk_un (by omega)).trans ((pk_un (by omega)).trans ((pk_un (by omega)).trans ((pk_un (by omega)).trans (hrc))))))]
    refine Ev.iconst (v := 1) rfl (by decide) ?_
    refine Ev.iadd rfl ?_
    rw [show (nI c) + (1 : Int32) = nI (c + 1) from (nq_add (a := c) (b := 1) rfl (rfl : (1 : Int32) = nI 1))]
    refine Ev.iastE (k := 0) rfl m_read (rfl : (0 : Int32) = nI 0) ⟨(by omega), by decide⟩ (fun τ7 f1 m_read => ?_)
    have m0 := frm.cell f1 m0 (by omega)
    have m_all := frm.cell f1 m_all (by omega)
    have m_has := frm.cell f1 m_has (by omega)
    have fr := fr.step f1 (by omega) (by omega)
    refine Ev.aload_n rfl rfl ?_
    refine Ev.xV0u rfl rfl m0 rfl rfl (by decide) ⟨(Nat.le_refl _), (Nat.le_refl _)⟩ (m_endsL_ok m0 m_all ht hA0 hst hok) (fun τ905 f9 q9 => ?_)
    obtain ⟨g905, A905, m0, m_all, hst⟩ := q9
    have m_read := frm.cell f9 m_read (by omega)
    have m_has := frm.cell f9 m_has (by omega)
    have fr := fr.step f9 (by omega) (by omega)
    refine Ev.ret rfl rfl (Nat.le_refl _) (Nat.le_refl _) ?_
    have hX : lpX U n 19 P s = s5 := by
      unfold lpX
      rw [← hs2]
      show chn U n 19 0 s2 3 = s5
      rw [hs5, hs4, hs3]
      rfl
    have hN : lpN U n 19 P s = nus U n 19 0 s2 := by
      unfold lpN
      rw [← hs2]
    rw [← hQ, hX, hN]
    refine ⟨rfl, fr, _, _, _, _, m0, m_all, m_read, m_has, hst, ?_, ?_⟩
    · exact pk_us
    · intro hw9 hf9
      rw [hs5] at hw9 hf9
      obtain ⟨w2, k2, f2, g2, -⟩ := nst_f0 hw9 hf9
      have q2 := f2
      have r2 := w2
      rw [hs4] at q2 r2
      obtain ⟨w1, k1, f1, g1, -⟩ := nst_f0 r2 q2
      have q1 := f1
      have r1 := w1
      rw [hs3] at q1 r1
      obtain ⟨w0, k0, f0, g0, -⟩ := nst_f0 r1 q1
      have fs := f0
      rw [hs2, hss] at fs
      have hm := hrd (hf1.symm.trans fs)
      have hcP := hcP (hf1.symm.trans fs)
      subst hcP
      have u0 : v3 = tV U n (Re s2) := by rw [hv3, rvl_ok w0 k0 g0]
      have n0 : v3 = nus U n 19 0 s2 0 := u0
      have u1 : v4 = tV U n (Re s3) := by rw [hv4, rvl_ok w1 k1 g1]
      have e1 : chn U n 19 0 s2 1 = s3 := by
        rw [hs3]
        rfl
      have n1 : v4 = nus U n 19 0 s2 1 := by
        unfold nus
        rw [e1]
        exact u1
      have u2 : v5 = tV U n (Re s4) := by rw [hv5, rvl_ok w2 k2 g2]
      have e2 : chn U n 19 0 s2 2 = s4 := by
        rw [hs4, hs3]
        rfl
      have n2 : v5 = nus U n 19 0 s2 2 := by
        unfold nus
        rw [e2]
        exact u2
      exact mP_k (d := 4) hm h6c rfl n0 n1 n2 (if_neg (by decide)).symm
  · skip
    refine Ev.aload_n rfl rfl ?_
    refine Ev.iconst (v := 3) rfl (by decide) ?_
    refine Ev.iload_n rfl rfl ?_
    refine Ev.xV2u rfl rfl m0 rfl rfl (by decide) ⟨(Nat.le_refl _), (Nat.le_refl _)⟩ (m_also_ok (k := 3) m0 m_all hst hok.2.1 (by decide) (by omega) (fun a b => by obtain ⟨q, q1, q2⟩ := hpa a b; exact ⟨q, q1, Or.inl q2⟩)) (fun τ902 f9 q9 => ?_)
    obtain ⟨g902, A902, m0, m_all, hst⟩ := q9
    have m_read := frm.cell f9 m_read (by omega)
    have m_has := frm.cell f9 m_has (by omega)
    have fr := fr.step f9 (by omega) (by omega)
    have h6c : 6 ≤ c := Nat.le_of_not_lt (fun h => c40 (nI_lt (b := 6) h (by decide)))
    have hss : lpS U n 19 P s = rnt s1 3 (tS0 U n (Re s)) := by
      unfold lpS lw1
      rw [← hs1]
      unfold lstP
      by_cases hf0 : Rf s1 = 0
      · have hcP := hcP (hf1.symm.trans hf0)
        exact if_pos ⟨by decide, by decide, by omega⟩
      · rw [rnt_f hf0, if_neg (show ¬ (19 = 20 ∧ P.1 = 0) by omega)]
        exact ite_self _
    obtain ⟨s2, hs2⟩ : ∃ q, q = lpS U n 19 P s := ⟨_, rfl⟩
    rw [← hss, ← hs2] at hst
    have hok : Rok U n s2 := by
      rw [hs2]
      unfold lpS lw1
      rw [← hs1]
      exact lstP_ok hok ha0
    refine Ev.aload_n rfl rfl ?_
    refine Ev.iconst (v := 0) rfl (by decide) ?_
    refine Ev.iconst (v := 4) rfl (by decide) ?_
    refine Ev.xV2 rfl rfl m0 rfl rfl (by decide) ⟨(Nat.le_refl _), (Nat.le_refl _)⟩ (m_numb_ok m0 m_all ht hA0 hst hok (lo := 0) (G := fun v => decide (0 ≤ v) && decide (v ≤ 4)) (K_in_G ⟨by decide, by decide⟩)) (fun τ903 f9 q9 => ?_)
    obtain ⟨g903, A903, m0, m_all, hst⟩ := q9
    have m_read := frm.cell f9 m_read (by omega)
    have m_has := frm.cell f9 m_has (by omega)
    have fr := fr.step f9 (by omega) (by omega)
    obtain ⟨s3, hs3⟩ : ∃ q, q = nst U n ((fun v => decide (0 ≤ v) && decide (v ≤ 4)) (tV U n (Re s2))) s2 := ⟨_, rfl⟩
    obtain ⟨ab3, hab3⟩ : ∃ q, q = rab U n (fun v => decide (0 ≤ v) && decide (v ≤ 4)) true s2 := ⟨_, rfl⟩
    obtain ⟨v3, hv3⟩ : ∃ q, q = rvl U n 0 (fun v => decide (0 ≤ v) && decide (v ≤ 4)) s2 := ⟨_, rfl⟩
    rw [← hs3, ← hab3] at hst
    rw [← hv3]
    have hok : Rok U n s3 := by
      rw [hs3]
      exact nst_ok ht hok
    have hr3 := rvl_le (U := U) (n := n) (lo := 0) (hi := 4) (s := s2) (by decide)
    rw [← hv3] at hr3
    refine Ev.istore_n rfl rfl rfl ?_
    refine Ev.aload_n rfl rfl ?_
    refine Ev.iconst (v := 0) rfl (by decide) ?_
    refine Ev.iconst (v := 5) rfl (by decide) ?_
    refine Ev.xV2 rfl rfl m0 rfl rfl (by decide) ⟨(Nat.le_refl _), (Nat.le_refl _)⟩ (m_numb_ok m0 m_all ht hA0 hst hok (lo := 0) (G := fun v => decide (0 ≤ v) && decide (v ≤ 5)) (K_in_G ⟨by decide, by decide⟩)) (fun τ904 f9 q9 => ?_)
    obtain ⟨g904, A904, m0, m_all, hst⟩ := q9
    have m_read := frm.cell f9 m_read (by omega)
    have m_has := frm.cell f9 m_has (by omega)
    have fr := fr.step f9 (by omega) (by omega)
    obtain ⟨s4, hs4⟩ : ∃ q, q = nst U n ((fun v => decide (0 ≤ v) && decide (v ≤ 5)) (tV U n (Re s3))) s3 := ⟨_, rfl⟩
    obtain ⟨ab4, hab4⟩ : ∃ q, q = rab U n (fun v => decide (0 ≤ v) && decide (v ≤ 5)) ab3 s3 := ⟨_, rfl⟩
    obtain ⟨v4, hv4⟩ : ∃ q, q = rvl U n 0 (fun v => decide (0 ≤ v) && decide (v ≤ 5)) s3 := ⟨_, rfl⟩
    rw [← hs4, ← hab4] at hst
    rw [← hv4]
    have hok : Rok U n s4 := by
      rw [hs4]
      exact nst_ok ht hok
    have hr4 := rvl_le (U := U) (n := n) (lo := 0) (hi := 5) (s := s3) (by decide)
    rw [← hv4] at hr4
    refine Ev.istore rfl rfl rfl ?_
    refine Ev.aload_n rfl rfl ?_
    refine Ev.iconst (v := 0) rfl (by decide) ?_
    refine Ev.bipush (v := 11) rfl (by decide) ?_
    refine Ev.xV2 rfl rfl m0 rfl rfl (by decide) ⟨(Nat.le_refl _), (Nat.le_refl _)⟩ (m_numb_ok m0 m_all ht hA0 hst hok (lo := 0) (G := fun v => decide (0 ≤ v) && decide (v ≤ 11)) (K_in_G ⟨by decide, by decide⟩)) (fun τ905 f9 q9 => ?_)
    obtain ⟨g905, A905, m0, m_all, hst⟩ := q9
    have m_read := frm.cell f9 m_read (by omega)
    have m_has := frm.cell f9 m_has (by omega)
    have fr := fr.step f9 (by omega) (by omega)
    obtain ⟨s5, hs5⟩ : ∃ q, q = nst U n ((fun v => decide (0 ≤ v) && decide (v ≤ 11)) (tV U n (Re s4))) s4 := ⟨_, rfl⟩
    obtain ⟨ab5, hab5⟩ : ∃ q, q = rab U n (fun v => decide (0 ≤ v) && decide (v ≤ 11)) ab4 s4 := ⟨_, rfl⟩
    obtain ⟨v5, hv5⟩ : ∃ q, q = rvl U n 0 (fun v => decide (0 ≤ v) && decide (v ≤ 11)) s4 := ⟨_, rfl⟩
    rw [← hs5, ← hab5] at hst
    rw [← hv5]
    have hok : Rok U n s5 := by
      rw [hs5]
      exact nst_ok ht hok
    have hr5 := rvl_le (U := U) (n := n) (lo := 0) (hi := 11) (s := s4) (by decide)
    rw [← hv5] at hr5
    refine Ev.istore rfl rfl rfl ?_
    refine Ev.iload_n rfl rfl ?_
    refine Ev.bipush (v := 19) rfl (by decide) ?_
    refine Ev.jne (tgt := 89) rfl (by decide) (fun c76 => ?_) (fun c76 => absurd c76 (by decide))
    refine Ev.iconst (v := (-1)) rfl (by decide) ?_
    refine Ev.istore rfl rfl rfl ?_
    refine Ev.aload_n rfl rfl ?_
    refine Ev.getf rfl rfl m0 rfl ?_
    refine Ev.iconst (v := 0) rfl (by decide) ?_
    refine Ev.ialdN (k := 0) rfl m_read (rfl : (0 : Int32) = nI 0) ⟨(by omega), by decide⟩ ?_
    rw [show rd 0 = nI c from hrc]
    refine Ev.bipush (v := 6) rfl (by decide) ?_
    refine Ev.jge (tgt := 219) rfl (by decide) (fun c100 => ?_) (fun c100 => absurd c100 (nI_nlt h6c (by omega)))
    refine Ev.aload_n rfl rfl ?_
    refine Ev.getf rfl rfl m0 rfl ?_
    refine Ev.iconst (v := 0) rfl (by decide) ?_
    refine Ev.dup2 rfl rfl rfl ?_
    refine Ev.ialdN (k := 0) rfl m_read (rfl : (0 : Int32) = nI 0) ⟨(by omega), by decide⟩ ?_
    rw [show rd 0 = nI c from hrc]
    refine Ev.iconst (v := 1) rfl (by decide) ?_
    refine Ev.iadd rfl ?_
    rw [show (nI c) + (1 : Int32) = nI (c + 1) from (nq_add (a := c) (b := 1) rfl (rfl : (1 : Int32) = nI 1))]
    refine Ev.iastE (k := 0) rfl m_read (rfl : (0 : Int32) = nI 0) ⟨(by omega), by decide⟩ (fun τ8 f1 m_read => ?_)
    have m0 := frm.cell f1 m0 (by omega)
    have m_all := frm.cell f1 m_all (by omega)
    have m_has := frm.cell f1 m_has (by omega)
    have fr := fr.step f1 (by omega) (by omega)
    refine Ev.aload_n rfl rfl ?_
    refine Ev.xV0u rfl rfl m0 rfl rfl (by decide) ⟨(Nat.le_refl _), (Nat.le_refl _)⟩ (m_endsL_ok m0 m_all ht hA0 hst hok) (fun τ906 f9 q9 => ?_)
    obtain ⟨g906, A906, m0, m_all, hst⟩ := q9
    have m_read := frm.cell f9 m_read (by omega)
    have m_has := frm.cell f9 m_has (by omega)
    have fr := fr.step f9 (by omega) (by omega)
    refine Ev.ret rfl rfl (Nat.le_refl _) (Nat.le_refl _) ?_
    have hX : lpX U n 19 P s = s5 := by
      unfold lpX
      rw [← hs2]
      show chn U n 19 0 s2 3 = s5
      rw [hs5, hs4, hs3]
      rfl
    have hN : lpN U n 19 P s = nus U n 19 0 s2 := by
      unfold lpN
      rw [← hs2]
    rw [← hQ, hX, hN]
    refine ⟨rfl, fr, _, _, _, _, m0, m_all, m_read, m_has, hst, ?_, ?_⟩
    · exact pk_us
    · intro hw9 hf9
      rw [hs5] at hw9 hf9
      obtain ⟨w2, k2, f2, g2, -⟩ := nst_f0 hw9 hf9
      have q2 := f2
      have r2 := w2
      rw [hs4] at q2 r2
      obtain ⟨w1, k1, f1, g1, -⟩ := nst_f0 r2 q2
      have q1 := f1
      have r1 := w1
      rw [hs3] at q1 r1
      obtain ⟨w0, k0, f0, g0, -⟩ := nst_f0 r1 q1
      rw [hs2, hss] at f0
      exact absurd f0 (rnt_f0 (by decide))
theorem m_plL16_ok (m0 : σ.2 y = some (.inr (.inr (10, mo y g)))) (m_all : σ.2 (y + 1) = some (.inl (0, 4500, A))) {rd : Nat → Int32} (m_read : σ.2 (y + 3) = some (.inl (0, 120, rd))) (ht : txt U n) (hA0 : ∀ p, p < n → A0 (10 + p) = nI (U p)) (hst : MSt0 U n A0 A g s) (hok : Rok U n s) (hw : Rw s = false) (hk : tK U n (Re s) = 3) (hW : tW U n (Re s) = 19) (h6 : P.1 ≤ 6) {c : Nat} (hrc : rd 0 = nI c) (hcb : c ≤ 600) (hrd : Rf s = 0 → mP rd 0 P) : RetX Γ m_M_planLine [.ref y] σ y (y + 4) none (fun τ => ∃ (g1 A1 rd1 : Nat → Int32) (ab1 : Bool), τ.2 y = some (.inr (.inr (10, mo y g1))) ∧ τ.2 (y + 1) = some (.inl (0, 4500, A1)) ∧ τ.2 (y + 3) = some (.inl (0, 120, rd1)) ∧ τ.2 (y + 2) = σ.2 (y + 2) ∧ MSt U n A0 A1 g1 (rel U n (lpX U n 16 P s)) ab1 ∧ rd1 0 = nI (c + 1) ∧ (Rw (lpX U n 16 P s) = false → Rf (lpX U n 16 P s) = 0 → mP rd1 0 (LnP 16 (lpN U n 16 P s) P))) := by
  have hn6 := ht.1
  have h600 := tS0_le ht hok.1
  have hcP : Rf s = 0 → P.1 = c := fun f => nI_injL (by omega) (by omega) ((hrd f).1.symm.trans hrc)
  unfold RetX
  generalize hQ : ((fun (r0 : Option Value) (τ : ex_S) => r0 = none ∧ frm σ τ y (y + 4) ∧ (fun τ : ex_S => ∃ (g1 A1 rd1 : Nat → Int32) (ab1 : Bool), τ.2 y = some (.inr (.inr (10, mo y g1))) ∧ τ.2 (y + 1) = some (.inl (0, 4500, A1)) ∧ τ.2 (y + 3) = some (.inl (0, 120, rd1)) ∧ τ.2 (y + 2) = σ.2 (y + 2) ∧ MSt U n A0 A1 g1 (rel U n (lpX U n 16 P s)) ab1 ∧ rd1 0 = nI (c + 1) ∧ (Rw (lpX U n 16 P s) = false → Rf (lpX U n 16 P s) = 0 → mP rd1 0 (LnP 16 (lpN U n 16 P s) P))) τ)) = Q
  refine Ret.start pm_184 rfl ?_
  have fr : frm σ σ y (y + 4) := frm.rf
  have m_has : σ.2 (y + 2) = σ.2 (y + 2) := rfl
  refine Ev.aload_n rfl rfl ?_
  refine Ev.getf rfl rfl m0 rfl ?_
  rw [hst.2.2.2.1.2.1]
  refine Ev.istore_n rfl rfl rfl ?_
  refine Ev.aload_n rfl rfl ?_
  refine Ev.bipush (v := 15) rfl (by decide) ?_
  refine Ev.bipush (v := 20) rfl (by decide) ?_
  refine Ev.xV2 rfl rfl m0 rfl rfl (by decide) ⟨(Nat.le_refl _), (Nat.le_refl _)⟩ (m_takes0_y (fi := 15) (la := 20) m0 m_all ht hA0 hst hok hw (by decide) ⟨hk, by rw [hW]; decide, by rw [hW]; decide⟩) (fun τ901 f9 q9 => ?_)
  obtain ⟨g901, A901, m0, m_all, hst⟩ := q9
  have m_read := frm.cell f9 m_read (by omega)
  have m_has := frm.cell f9 m_has (by omega)
  have fr := fr.step f9 (by omega) (by omega)
  rw [show nI (tW U n (Re s)) = (19 : Int32) from by rw [hW]; rfl]
  obtain ⟨s1, hs1⟩ : ∃ q : Rs, q = (false, tE U n (Re s), Rf s, Rp s) := ⟨_, rfl⟩
  rw [← hs1] at hst
  have hw1 : Rw s1 = false := by rw [hs1]; rfl
  have he1 : Re s1 = tE U n (Re s) := by rw [hs1]; rfl
  have hf1 : Rf s1 = Rf s := by rw [hs1]; rfl
  have hp1 : Rp s1 = Rp s := by rw [hs1]; rfl
  have hok0 := hok
  have hok : Rok U n s1 := by rw [hs1]; exact lw1_ok ht hok (by omega) hw
  have ha0 : tS0 U n (Re s) < tS0 U n (Re s1) := by rw [he1]; exact tE_st ht hok0.1 (by omega)
  have hpa : Rw s1 = false → ¬ Rf s1 = 0 → ∃ q, Rp s1 = nI q ∧ q < tS0 U n (Re s) := fun _ c => by
    rw [hp1]
    exact hok0.2.2 hw (by rw [← hf1]; exact c)
  refine Ev.istore_n rfl rfl rfl ?_
  refine Ev.iload_n rfl rfl ?_
  refine Ev.bipush (v := 20) rfl (by decide) ?_
  refine Ev.jne (tgt := 28) rfl (by decide) (fun c17 => ?_) (fun c17 => absurd c17 (by decide))
  refine Ev.iload_n rfl rfl ?_
  refine Ev.zle (tgt := 229) rfl (by decide) (fun c29 => absurd (by decide) c29) (fun c29 => ?_)
  refine Ev.aload_n rfl rfl ?_
  refine Ev.getf rfl rfl m0 rfl ?_
  refine Ev.iconst (v := 0) rfl (by decide) ?_
  refine Ev.ialdN (k := 0) rfl m_read (rfl : (0 : Int32) = nI 0) ⟨(by omega), by decide⟩ ?_
  rw [show rd 0 = nI c from hrc]
  refine Ev.bipush (v := 6) rfl (by decide) ?_
  refine Ev.jlt (tgt := 49) rfl (by decide) (fun c40 => ?_) (fun c40 => ?_)
  · skip
    have h6c : c < 6 := (nI_ltI (a := c) (b := 6) (by omega) (by decide)).mp c40
    have hss : lpS U n 16 P s = s1 := by
      unfold lpS lw1
      rw [← hs1]
      unfold lstP
      by_cases hf0 : Rf s1 = 0
      · have hcP := hcP (hf1.symm.trans hf0)
        rw [if_neg (by omega)]
        exact if_neg (by omega)
      · rw [rnt_f hf0, if_neg (show ¬ (16 = 20 ∧ P.1 = 0) by omega)]
        exact ite_self _
    obtain ⟨s2, hs2⟩ : ∃ q, q = lpS U n 16 P s := ⟨_, rfl⟩
    rw [← hss, ← hs2] at hst
    have hok : Rok U n s2 := by
      rw [hs2]
      unfold lpS lw1
      rw [← hs1]
      exact lstP_ok hok ha0
    refine Ev.aload_n rfl rfl ?_
    refine Ev.iconst (v := 0) rfl (by decide) ?_
    refine Ev.iconst (v := 4) rfl (by decide) ?_
    refine Ev.xV2 rfl rfl m0 rfl rfl (by decide) ⟨(Nat.le_refl _), (Nat.le_refl _)⟩ (m_numb_ok m0 m_all ht hA0 hst hok (lo := 0) (G := fun v => decide (0 ≤ v) && decide (v ≤ 4)) (K_in_G ⟨by decide, by decide⟩)) (fun τ902 f9 q9 => ?_)
    obtain ⟨g902, A902, m0, m_all, hst⟩ := q9
    have m_read := frm.cell f9 m_read (by omega)
    have m_has := frm.cell f9 m_has (by omega)
    have fr := fr.step f9 (by omega) (by omega)
    obtain ⟨s3, hs3⟩ : ∃ q, q = nst U n ((fun v => decide (0 ≤ v) && decide (v ≤ 4)) (tV U n (Re s2))) s2 := ⟨_, rfl⟩
    obtain ⟨ab3, hab3⟩ : ∃ q, q = rab U n (fun v => decide (0 ≤ v) && decide (v ≤ 4)) true s2 := ⟨_, rfl⟩
    obtain ⟨v3, hv3⟩ : ∃ q, q = rvl U n 0 (fun v => decide (0 ≤ v) && decide (v ≤ 4)) s2 := ⟨_, rfl⟩
    rw [← hs3, ← hab3] at hst
    rw [← hv3]
    have hok : Rok U n s3 := by
      rw [hs3]
      exact nst_ok ht hok
    have hr3 := rvl_le (U := U) (n := n) (lo := 0) (hi := 4) (s := s2) (by decide)
    rw [← hv3] at hr3
    refine Ev.istore_n rfl rfl rfl ?_
    refine Ev.aload_n rfl rfl ?_
    refine Ev.iconst (v := 0) rfl (by decide) ?_
    refine Ev.iconst (v := 5) rfl (by decide) ?_
    refine Ev.xV2 rfl rfl m0 rfl rfl (by decide) ⟨(Nat.le_refl _), (Nat.le_refl _)⟩ (m_numb_ok m0 m_all ht hA0 hst hok (lo := 0) (G := fun v => decide (0 ≤ v) && decide (v ≤ 5)) (K_in_G ⟨by decide, by decide⟩)) (fun τ903 f9 q9 => ?_)
    obtain ⟨g903, A903, m0, m_all, hst⟩ := q9
    have m_read := frm.cell f9 m_read (by omega)
    have m_has := frm.cell f9 m_has (by omega)
    have fr := fr.step f9 (by omega) (by omega)
    obtain ⟨s4, hs4⟩ : ∃ q, q = nst U n ((fun v => decide (0 ≤ v) && decide (v ≤ 5)) (tV U n (Re s3))) s3 := ⟨_, rfl⟩
    obtain ⟨ab4, hab4⟩ : ∃ q, q = rab U n (fun v => decide (0 ≤ v) && decide (v ≤ 5)) ab3 s3 := ⟨_, rfl⟩
    obtain ⟨v4, hv4⟩ : ∃ q, q = rvl U n 0 (fun v => decide (0 ≤ v) && decide (v ≤ 5)) s3 := ⟨_, rfl⟩
    rw [← hs4, ← hab4] at hst
    rw [← hv4]
    have hok : Rok U n s4 := by
      rw [hs4]
      exact nst_ok ht hok
    have hr4 := rvl_le (U := U) (n := n) (lo := 0) (hi := 5) (s := s3) (by decide)
    rw [← hv4] at hr4
    refine Ev.istore rfl rfl rfl ?_
    refine Ev.aload_n rfl rfl ?_
    refine Ev.iconst (v := 0) rfl (by decide) ?_
    refine Ev.bipush (v := 11) rfl (by decide) ?_
    refine Ev.xV2 rfl rfl m0 rfl rfl (by decide) ⟨(Nat.le_refl _), (Nat.le_refl _)⟩ (m_numb_ok m0 m_all ht hA0 hst hok (lo := 0) (G := fun v => decide (0 ≤ v) && decide (v ≤ 11)) (K_in_G ⟨by decide, by decide⟩)) (fun τ904 f9 q9 => ?_)
    obtain ⟨g904, A904, m0, m_all, hst⟩ := q9
    have m_read := frm.cell f9 m_read (by omega)
    have m_has := frm.cell f9 m_has (by omega)
    have fr := fr.step f9 (by omega) (by omega)
    obtain ⟨s5, hs5⟩ : ∃ q, q = nst U n ((fun v => decide (0 ≤ v) && decide (v ≤ 11)) (tV U n (Re s4))) s4 := ⟨_, rfl⟩
    obtain ⟨ab5, hab5⟩ : ∃ q, q = rab U n (fun v => decide (0 ≤ v) && decide (v ≤ 11)) ab4 s4 := ⟨_, rfl⟩
    obtain ⟨v5, hv5⟩ : ∃ q, q = rvl U n 0 (fun v => decide (0 ≤ v) && decide (v ≤ 11)) s4 := ⟨_, rfl⟩
    rw [← hs5, ← hab5] at hst
    rw [← hv5]
    have hok : Rok U n s5 := by
      rw [hs5]
      exact nst_ok ht hok
    have hr5 := rvl_le (U := U) (n := n) (lo := 0) (hi := 11) (s := s4) (by decide)
    rw [← hv5] at hr5
    refine Ev.istore rfl rfl rfl ?_
    refine Ev.iload_n rfl rfl ?_
    refine Ev.bipush (v := 19) rfl (by decide) ?_
    refine Ev.jne (tgt := 89) rfl (by decide) (fun c76 => absurd (by decide) c76) (fun c76 => ?_)
    refine Ev.aload_n rfl rfl ?_
    refine Ev.iconst (v := 0) rfl (by decide) ?_
    refine Ev.bipush (v := 11) rfl (by decide) ?_
    refine Ev.xV2 rfl rfl m0 rfl rfl (by decide) ⟨(Nat.le_refl _), (Nat.le_refl _)⟩ (m_numb_ok m0 m_all ht hA0 hst hok (lo := 0) (G := fun v => decide (0 ≤ v) && decide (v ≤ 11)) (K_in_G ⟨by decide, by decide⟩)) (fun τ905 f9 q9 => ?_)
    obtain ⟨g905, A905, m0, m_all, hst⟩ := q9
    have m_read := frm.cell f9 m_read (by omega)
    have m_has := frm.cell f9 m_has (by omega)
    have fr := fr.step f9 (by omega) (by omega)
    obtain ⟨s6, hs6⟩ : ∃ q, q = nst U n ((fun v => decide (0 ≤ v) && decide (v ≤ 11)) (tV U n (Re s5))) s5 := ⟨_, rfl⟩
    obtain ⟨ab6, hab6⟩ : ∃ q, q = rab U n (fun v => decide (0 ≤ v) && decide (v ≤ 11)) ab5 s5 := ⟨_, rfl⟩
    obtain ⟨v6, hv6⟩ : ∃ q, q = rvl U n 0 (fun v => decide (0 ≤ v) && decide (v ≤ 11)) s5 := ⟨_, rfl⟩
    rw [← hs6, ← hab6] at hst
    rw [← hv6]
    have hok : Rok U n s6 := by
      rw [hs6]
      exact nst_ok ht hok
    have hr6 := rvl_le (U := U) (n := n) (lo := 0) (hi := 11) (s := s5) (by decide)
    rw [← hv6] at hr6
    refine Ev.goto (tgt := 90) rfl (by decide) ?_
    refine Ev.istore rfl rfl rfl ?_
    refine Ev.aload_n rfl rfl ?_
    refine Ev.getf rfl rfl m0 rfl ?_
    refine Ev.iconst (v := 0) rfl (by decide) ?_
    refine Ev.ialdN (k := 0) rfl m_read (rfl : (0 : Int32) = nI 0) ⟨(by omega), by decide⟩ ?_
    rw [show rd 0 = nI c from hrc]
    refine Ev.bipush (v := 6) rfl (by decide) ?_
    refine Ev.jge (tgt := 219) rfl (by decide) (fun c100 => absurd (nI_lt (b := 6) h6c (by decide)) c100) (fun c100 => ?_)
    refine Ev.iconst (v := 1) rfl (by decide) ?_
    refine Ev.bipush (v := 6) rfl (by decide) ?_
    refine Ev.aload_n rfl rfl ?_
    refine Ev.getf rfl rfl m0 rfl ?_
    refine Ev.iconst (v := 0) rfl (by decide) ?_
    refine Ev.ialdN (k := 0) rfl m_read (rfl : (0 : Int32) = nI 0) ⟨(by omega), by decide⟩ ?_
    rw [show rd 0 = nI c from hrc]
    refine Ev.imul rfl ?_
    refine Ev.iadd rfl ?_
    rw [show (1 : Int32) + ((6 : Int32) * (nI c)) = nI (1 + (6 * c)) from (nq_add (a := 1) (b := 6 * c) (rfl : (1 : Int32) = nI 1) (nq_mul (a := 6) (b := c) (rfl : (6 : Int32) = nI 6) rfl))]
    refine Ev.istore rfl rfl rfl ?_
    refine Ev.aload_n rfl rfl ?_
    refine Ev.getf rfl rfl m0 rfl ?_
    refine Ev.iload rfl rfl ?_
    refine Ev.iconst (v := 0) rfl (by decide) ?_
    refine Ev.iadd rfl ?_
    refine Ev.iload_n rfl rfl ?_
    refine Ev.bipush (v := 16) rfl (by decide) ?_
    refine Ev.jne (tgt := 134) rfl (by decide) (fun c127 => ?_) (fun c127 => absurd c127 (by decide))
    refine Ev.iload_n rfl rfl ?_
    refine Ev.bipush (v := 19) rfl (by decide) ?_
    refine Ev.jne (tgt := 144) rfl (by decide) (fun c137 => absurd (by decide) c137) (fun c137 => ?_)
    refine Ev.iconst (v := 1) rfl (by decide) ?_
    refine Ev.goto (tgt := 165) rfl (by decide) ?_
    refine Ev.iastE (k := 1 + (6 * c) + 0) rfl m_read (nq_add (a := 1 + (6 * c)) (b := 0) rfl (rfl : (0 : Int32) = nI 0)) ⟨(by omega), by decide⟩ (fun τ1 f1 m_read => ?_)
    have m0 := frm.cell f1 m0 (by omega)
    have m_all := frm.cell f1 m_all (by omega)
    have m_has := frm.cell f1 m_has (by omega)
    have fr := fr.step f1 (by omega) (by omega)
    refine Ev.aload_n rfl rfl ?_
    refine Ev.getf rfl rfl m0 rfl ?_
    refine Ev.iload rfl rfl ?_
    refine Ev.iconst (v := 1) rfl (by decide) ?_
    refine Ev.iadd rfl ?_
    refine Ev.iload_n rfl rfl ?_
    refine Ev.iastE (k := 1 + (6 * c) + 1) rfl m_read (nq_add (a := 1 + (6 * c)) (b := 1) rfl (rfl : (1 : Int32) = nI 1)) ⟨(by omega), by decide⟩ (fun τ2 f1 m_read => ?_)
    have m0 := frm.cell f1 m0 (by omega)
    have m_all := frm.cell f1 m_all (by omega)
    have m_has := frm.cell f1 m_has (by omega)
    have fr := fr.step f1 (by omega) (by omega)
    refine Ev.aload_n rfl rfl ?_
    refine Ev.getf rfl rfl m0 rfl ?_
    refine Ev.iload rfl rfl ?_
    refine Ev.iconst (v := 2) rfl (by decide) ?_
    refine Ev.iadd rfl ?_
    refine Ev.iload rfl rfl ?_
    refine Ev.iastE (k := 1 + (6 * c) + 2) rfl m_read (nq_add (a := 1 + (6 * c)) (b := 2) rfl (rfl : (2 : Int32) = nI 2)) ⟨(by omega), by decide⟩ (fun τ3 f1 m_read => ?_)
    have m0 := frm.cell f1 m0 (by omega)
    have m_all := frm.cell f1 m_all (by omega)
    have m_has := frm.cell f1 m_has (by omega)
    have fr := fr.step f1 (by omega) (by omega)
    refine Ev.aload_n rfl rfl ?_
    refine Ev.getf rfl rfl m0 rfl ?_
    refine Ev.iload rfl rfl ?_
    refine Ev.iconst (v := 3) rfl (by decide) ?_
    refine Ev.iadd rfl ?_
    refine Ev.iload rfl rfl ?_
    refine Ev.iastE (k := 1 + (6 * c) + 3) rfl m_read (nq_add (a := 1 + (6 * c)) (b := 3) rfl (rfl : (3 : Int32) = nI 3)) ⟨(by omega), by decide⟩ (fun τ4 f1 m_read => ?_)
    have m0 := frm.cell f1 m0 (by omega)
    have m_all := frm.cell f1 m_all (by omega)
    have m_has := frm.cell f1 m_has (by omega)
    have fr := fr.step f1 (by omega) (by omega)
    refine Ev.aload_n rfl rfl ?_
    refine Ev.getf rfl rfl m0 rfl ?_
    refine Ev.iload rfl rfl ?_
    refine Ev.iconst (v := 4) rfl (by decide) ?_
    refine Ev.iadd rfl ?_
    refine Ev.iload rfl rfl ?_
    refine Ev.iastE (k := 1 + (6 * c) + 4) rfl m_read (nq_add (a := 1 + (6 * c)) (b := 4) rfl (rfl : (4 : Int32) = nI 4)) ⟨(by omega), by decide⟩ (fun τ5 f1 m_read => ?_)
    have m0 := frm.cell f1 m0 (by omega)
    have m_all := frm.cell f1 m_all (by omega)
    have m_has := frm.cell f1 m_has (by omega)
    have fr := fr.step f1 (by omega) (by omega)
    refine Ev.aload_n rfl rfl ?_
    refine Ev.getf rfl rfl m0 rfl ?_
    refine Ev.iload rfl rfl ?_
    refine Ev.iconst (v := 5) rfl (by decide) ?_
    refine Ev.iadd rfl ?_
    refine Ev.iconst (v := 0) rfl (by decide) ?_
    refine Ev.iastE (k := 1 + (6 * c) + 5) rfl m_read (nq_add (a := 1 + (6 * c)) (b := 5) rfl (rfl : (5 : Int32) = nI 5)) ⟨(by omega), by decide⟩ (fun τ6 f1 m_read => ?_)
    have m0 := frm.cell f1 m0 (by omega)
    have m_all := frm.cell f1 m_all (by omega)
    have m_has := frm.cell f1 m_has (by omega)
    have fr := fr.step f1 (by omega) (by omega)
    refine Ev.aload_n rfl rfl ?_
    refine Ev.getf rfl rfl m0 rfl ?_
    refine Ev.iconst (v := 0) rfl (by decide) ?_
    refine Ev.dup2 rfl rfl rfl ?_
    refine Ev.ialdN (k := 0) rfl m_read (rfl : (0 : Int32) = nI 0) ⟨(by omega), by decide⟩ ?_
    rw [show (upd (upd (upd (upd (upd (upd rd (1 + (6 * c) + 0) (1 : Int32)) (1 + (6 * c) + 1) (nI v3)) (1 + (6 * c) + 2) (nI v4)) (1 + (6 * c) + 3) (nI v5)) (1 + (6 * c) + 4) (nI v6)) (1 + (6 * c) + 5) (0 : Int32)) 0 = nI c from (pk_un (by omega)).trans ((pk_un (by omega)).trans ((pk_un (by omega)).trans ((pk_un (by omega)).trans ((pk_un (by omega)).trans ((pk_un (by omega)).trans (hrc))))))]
    refine Ev.iconst (v := 1) rfl (by decide) ?_
    refine Ev.iadd rfl ?_
    rw [show (nI c) + (1 : Int32) = nI (c + 1) from (nq_add (a := c) (b := 1) rfl (rfl : (1 : Int32) = nI 1))]
    refine Ev.iastE (k := 0) rfl m_read (rfl : (0 : Int32) = nI 0) ⟨(by omega), by decide⟩ (fun τ7 f1 m_read => ?_)
    have m0 := frm.cell f1 m0 (by omega)
    have m_all := frm.cell f1 m_all (by omega)
    have m_has := frm.cell f1 m_has (by omega)
    have fr := fr.step f1 (by omega) (by omega)
    refine Ev.aload_n rfl rfl ?_
    refine Ev.xV0u rfl rfl m0 rfl rfl (by decide) ⟨(Nat.le_refl _), (Nat.le_refl _)⟩ (m_endsL_ok m0 m_all ht hA0 hst hok) (fun τ906 f9 q9 => ?_)
    obtain ⟨g906, A906, m0, m_all, hst⟩ := q9
    have m_read := frm.cell f9 m_read (by omega)
    have m_has := frm.cell f9 m_has (by omega)
    have fr := fr.step f9 (by omega) (by omega)
    refine Ev.ret rfl rfl (Nat.le_refl _) (Nat.le_refl _) ?_
    have hX : lpX U n 16 P s = s6 := by
      unfold lpX
      rw [← hs2]
      show chn U n 16 0 s2 4 = s6
      rw [hs6, hs5, hs4, hs3]
      rfl
    have hN : lpN U n 16 P s = nus U n 16 0 s2 := by
      unfold lpN
      rw [← hs2]
    rw [← hQ, hX, hN]
    refine ⟨rfl, fr, _, _, _, _, m0, m_all, m_read, m_has, hst, ?_, ?_⟩
    · exact pk_us
    · intro hw9 hf9
      rw [hs6] at hw9 hf9
      obtain ⟨w3, k3, f3, g3, -⟩ := nst_f0 hw9 hf9
      have q3 := f3
      have r3 := w3
      rw [hs5] at q3 r3
      obtain ⟨w2, k2, f2, g2, -⟩ := nst_f0 r3 q3
      have q2 := f2
      have r2 := w2
      rw [hs4] at q2 r2
      obtain ⟨w1, k1, f1, g1, -⟩ := nst_f0 r2 q2
      have q1 := f1
      have r1 := w1
      rw [hs3] at q1 r1
      obtain ⟨w0, k0, f0, g0, -⟩ := nst_f0 r1 q1
      have fs := f0
      rw [hs2, hss] at fs
      have hm := hrd (hf1.symm.trans fs)
      have hcP := hcP (hf1.symm.trans fs)
      subst hcP
      have u0 : v3 = tV U n (Re s2) := by rw [hv3, rvl_ok w0 k0 g0]
      have n0 : v3 = nus U n 16 0 s2 0 := u0
      have u1 : v4 = tV U n (Re s3) := by rw [hv4, rvl_ok w1 k1 g1]
      have e1 : chn U n 16 0 s2 1 = s3 := by
        rw [hs3]
        rfl
      have n1 : v4 = nus U n 16 0 s2 1 := by
        unfold nus
        rw [e1]
        exact u1
      have u2 : v5 = tV U n (Re s4) := by rw [hv5, rvl_ok w2 k2 g2]
      have e2 : chn U n 16 0 s2 2 = s4 := by
        rw [hs4, hs3]
        rfl
      have n2 : v5 = nus U n 16 0 s2 2 := by
        unfold nus
        rw [e2]
        exact u2
      have u3 : v6 = tV U n (Re s5) := by rw [hv6, rvl_ok w3 k3 g3]
      have e3 : chn U n 16 0 s2 3 = s5 := by
        rw [hs5, hs4, hs3]
        rfl
      have n3 : v6 = nus U n 16 0 s2 3 := by
        unfold nus
        rw [e3]
        exact u3
      exact mP_k (d := 1) hm h6c rfl n0 n1 n2 (by rw [if_pos rfl, ← n3])
  · skip
    refine Ev.aload_n rfl rfl ?_
    refine Ev.iconst (v := 3) rfl (by decide) ?_
    refine Ev.iload_n rfl rfl ?_
    refine Ev.xV2u rfl rfl m0 rfl rfl (by decide) ⟨(Nat.le_refl _), (Nat.le_refl _)⟩ (m_also_ok (k := 3) m0 m_all hst hok.2.1 (by decide) (by omega) (fun a b => by obtain ⟨q, q1, q2⟩ := hpa a b; exact ⟨q, q1, Or.inl q2⟩)) (fun τ902 f9 q9 => ?_)
    obtain ⟨g902, A902, m0, m_all, hst⟩ := q9
    have m_read := frm.cell f9 m_read (by omega)
    have m_has := frm.cell f9 m_has (by omega)
    have fr := fr.step f9 (by omega) (by omega)
    have h6c : 6 ≤ c := Nat.le_of_not_lt (fun h => c40 (nI_lt (b := 6) h (by decide)))
    have hss : lpS U n 16 P s = rnt s1 3 (tS0 U n (Re s)) := by
      unfold lpS lw1
      rw [← hs1]
      unfold lstP
      by_cases hf0 : Rf s1 = 0
      · have hcP := hcP (hf1.symm.trans hf0)
        exact if_pos ⟨by decide, by decide, by omega⟩
      · rw [rnt_f hf0, if_neg (show ¬ (16 = 20 ∧ P.1 = 0) by omega)]
        exact ite_self _
    obtain ⟨s2, hs2⟩ : ∃ q, q = lpS U n 16 P s := ⟨_, rfl⟩
    rw [← hss, ← hs2] at hst
    have hok : Rok U n s2 := by
      rw [hs2]
      unfold lpS lw1
      rw [← hs1]
      exact lstP_ok hok ha0
    refine Ev.aload_n rfl rfl ?_
    refine Ev.iconst (v := 0) rfl (by decide) ?_
    refine Ev.iconst (v := 4) rfl (by decide) ?_
    refine Ev.xV2 rfl rfl m0 rfl rfl (by decide) ⟨(Nat.le_refl _), (Nat.le_refl _)⟩ (m_numb_ok m0 m_all ht hA0 hst hok (lo := 0) (G := fun v => decide (0 ≤ v) && decide (v ≤ 4)) (K_in_G ⟨by decide, by decide⟩)) (fun τ903 f9 q9 => ?_)
    obtain ⟨g903, A903, m0, m_all, hst⟩ := q9
    have m_read := frm.cell f9 m_read (by omega)
    have m_has := frm.cell f9 m_has (by omega)
    have fr := fr.step f9 (by omega) (by omega)
    obtain ⟨s3, hs3⟩ : ∃ q, q = nst U n ((fun v => decide (0 ≤ v) && decide (v ≤ 4)) (tV U n (Re s2))) s2 := ⟨_, rfl⟩
    obtain ⟨ab3, hab3⟩ : ∃ q, q = rab U n (fun v => decide (0 ≤ v) && decide (v ≤ 4)) true s2 := ⟨_, rfl⟩
    obtain ⟨v3, hv3⟩ : ∃ q, q = rvl U n 0 (fun v => decide (0 ≤ v) && decide (v ≤ 4)) s2 := ⟨_, rfl⟩
    rw [← hs3, ← hab3] at hst
    rw [← hv3]
    have hok : Rok U n s3 := by
      rw [hs3]
      exact nst_ok ht hok
    have hr3 := rvl_le (U := U) (n := n) (lo := 0) (hi := 4) (s := s2) (by decide)
    rw [← hv3] at hr3
    refine Ev.istore_n rfl rfl rfl ?_
    refine Ev.aload_n rfl rfl ?_
    refine Ev.iconst (v := 0) rfl (by decide) ?_
    refine Ev.iconst (v := 5) rfl (by decide) ?_
    refine Ev.xV2 rfl rfl m0 rfl rfl (by decide) ⟨(Nat.le_refl _), (Nat.le_refl _)⟩ (m_numb_ok m0 m_all ht hA0 hst hok (lo := 0) (G := fun v => decide (0 ≤ v) && decide (v ≤ 5)) (K_in_G ⟨by decide, by decide⟩)) (fun τ904 f9 q9 => ?_)
    obtain ⟨g904, A904, m0, m_all, hst⟩ := q9
    have m_read := frm.cell f9 m_read (by omega)
    have m_has := frm.cell f9 m_has (by omega)
    have fr := fr.step f9 (by omega) (by omega)
    obtain ⟨s4, hs4⟩ : ∃ q, q = nst U n ((fun v => decide (0 ≤ v) && decide (v ≤ 5)) (tV U n (Re s3))) s3 := ⟨_, rfl⟩
    obtain ⟨ab4, hab4⟩ : ∃ q, q = rab U n (fun v => decide (0 ≤ v) && decide (v ≤ 5)) ab3 s3 := ⟨_, rfl⟩
    obtain ⟨v4, hv4⟩ : ∃ q, q = rvl U n 0 (fun v => decide (0 ≤ v) && decide (v ≤ 5)) s3 := ⟨_, rfl⟩
    rw [← hs4, ← hab4] at hst
    rw [← hv4]
    have hok : Rok U n s4 := by
      rw [hs4]
      exact nst_ok ht hok
    have hr4 := rvl_le (U := U) (n := n) (lo := 0) (hi := 5) (s := s3) (by decide)
    rw [← hv4] at hr4
    refine Ev.istore rfl rfl rfl ?_
    refine Ev.aload_n rfl rfl ?_
    refine Ev.iconst (v := 0) rfl (by decide) ?_
    refine Ev.bipush (v := 11) rfl (by decide) ?_
    refine Ev.xV2 rfl rfl m0 rfl rfl (by decide) ⟨(Nat.le_refl _), (Nat.le_refl _)⟩ (m_numb_ok m0 m_all ht hA0 hst hok (lo := 0) (G := fun v => decide (0 ≤ v) && decide (v ≤ 11)) (K_in_G ⟨by decide, by decide⟩)) (fun τ905 f9 q9 => ?_)
    obtain ⟨g905, A905, m0, m_all, hst⟩ := q9
    have m_read := frm.cell f9 m_read (by omega)
    have m_has := frm.cell f9 m_has (by omega)
    have fr := fr.step f9 (by omega) (by omega)
    obtain ⟨s5, hs5⟩ : ∃ q, q = nst U n ((fun v => decide (0 ≤ v) && decide (v ≤ 11)) (tV U n (Re s4))) s4 := ⟨_, rfl⟩
    obtain ⟨ab5, hab5⟩ : ∃ q, q = rab U n (fun v => decide (0 ≤ v) && decide (v ≤ 11)) ab4 s4 := ⟨_, rfl⟩
    obtain ⟨v5, hv5⟩ : ∃ q, q = rvl U n 0 (fun v => decide (0 ≤ v) && decide (v ≤ 11)) s4 := ⟨_, rfl⟩
    rw [← hs5, ← hab5] at hst
    rw [← hv5]
    have hok : Rok U n s5 := by
      rw [hs5]
      exact nst_ok ht hok
    have hr5 := rvl_le (U := U) (n := n) (lo := 0) (hi := 11) (s := s4) (by decide)
    rw [← hv5] at hr5
    refine Ev.istore rfl rfl rfl ?_
    refine Ev.iload_n rfl rfl ?_
    refine Ev.bipush (v := 19) rfl (by decide) ?_
    refine Ev.jne (tgt := 89) rfl (by decide) (fun c76 => absurd (by decide) c76) (fun c76 => ?_)
    refine Ev.aload_n rfl rfl ?_
    refine Ev.iconst (v := 0) rfl (by decide) ?_
    refine Ev.bipush (v := 11) rfl (by decide) ?_
    refine Ev.xV2 rfl rfl m0 rfl rfl (by decide) ⟨(Nat.le_refl _), (Nat.le_refl _)⟩ (m_numb_ok m0 m_all ht hA0 hst hok (lo := 0) (G := fun v => decide (0 ≤ v) && decide (v ≤ 11)) (K_in_G ⟨by decide, by decide⟩)) (fun τ906 f9 q9 => ?_)
    obtain ⟨g906, A906, m0, m_all, hst⟩ := q9
    have m_read := frm.cell f9 m_read (by omega)
    have m_has := frm.cell f9 m_has (by omega)
    have fr := fr.step f9 (by omega) (by omega)
    obtain ⟨s6, hs6⟩ : ∃ q, q = nst U n ((fun v => decide (0 ≤ v) && decide (v ≤ 11)) (tV U n (Re s5))) s5 := ⟨_, rfl⟩
    obtain ⟨ab6, hab6⟩ : ∃ q, q = rab U n (fun v => decide (0 ≤ v) && decide (v ≤ 11)) ab5 s5 := ⟨_, rfl⟩
    obtain ⟨v6, hv6⟩ : ∃ q, q = rvl U n 0 (fun v => decide (0 ≤ v) && decide (v ≤ 11)) s5 := ⟨_, rfl⟩
    rw [← hs6, ← hab6] at hst
    rw [← hv6]
    have hok : Rok U n s6 := by
      rw [hs6]
      exact nst_ok ht hok
    have hr6 := rvl_le (U := U) (n := n) (lo := 0) (hi := 11) (s := s5) (by decide)
    rw [← hv6] at hr6
    refine Ev.goto (tgt := 90) rfl (by decide) ?_
    refine Ev.istore rfl rfl rfl ?_
    refine Ev.aload_n rfl rfl ?_
    refine Ev.getf rfl rfl m0 rfl ?_
    refine Ev.iconst (v := 0) rfl (by decide) ?_
    refine Ev.ialdN (k := 0) rfl m_read (rfl : (0 : Int32) = nI 0) ⟨(by omega), by decide⟩ ?_
    rw [show rd 0 = nI c from hrc]
    refine Ev.bipush (v := 6) rfl (by decide) ?_
    refine Ev.jge (tgt := 219) rfl (by decide) (fun c100 => ?_) (fun c100 => absurd c100 (nI_nlt h6c (by omega)))
    refine Ev.aload_n rfl rfl ?_
    refine Ev.getf rfl rfl m0 rfl ?_
    refine Ev.iconst (v := 0) rfl (by decide) ?_
    refine Ev.dup2 rfl rfl rfl ?_
    refine Ev.ialdN (k := 0) rfl m_read (rfl : (0 : Int32) = nI 0) ⟨(by omega), by decide⟩ ?_
    rw [show rd 0 = nI c from hrc]
    refine Ev.iconst (v := 1) rfl (by decide) ?_
    refine Ev.iadd rfl ?_
    rw [show (nI c) + (1 : Int32) = nI (c + 1) from (nq_add (a := c) (b := 1) rfl (rfl : (1 : Int32) = nI 1))]
    refine Ev.iastE (k := 0) rfl m_read (rfl : (0 : Int32) = nI 0) ⟨(by omega), by decide⟩ (fun τ8 f1 m_read => ?_)
    have m0 := frm.cell f1 m0 (by omega)
    have m_all := frm.cell f1 m_all (by omega)
    have m_has := frm.cell f1 m_has (by omega)
    have fr := fr.step f1 (by omega) (by omega)
    refine Ev.aload_n rfl rfl ?_
    refine Ev.xV0u rfl rfl m0 rfl rfl (by decide) ⟨(Nat.le_refl _), (Nat.le_refl _)⟩ (m_endsL_ok m0 m_all ht hA0 hst hok) (fun τ907 f9 q9 => ?_)
    obtain ⟨g907, A907, m0, m_all, hst⟩ := q9
    have m_read := frm.cell f9 m_read (by omega)
    have m_has := frm.cell f9 m_has (by omega)
    have fr := fr.step f9 (by omega) (by omega)
    refine Ev.ret rfl rfl (Nat.le_refl _) (Nat.le_refl _) ?_
    have hX : lpX U n 16 P s = s6 := by
      unfold lpX
      rw [← hs2]
      show chn U n 16 0 s2 4 = s6
      rw [hs6, hs5, hs4, hs3]
      rfl
    have hN : lpN U n 16 P s = nus U n 16 0 s2 := by
      unfold lpN
      rw [← hs2]
    rw [← hQ, hX, hN]
    refine ⟨rfl, fr, _, _, _, _, m0, m_all, m_read, m_has, hst, ?_, ?_⟩
    · exact pk_us
    · intro hw9 hf9
      rw [hs6] at hw9 hf9
      obtain ⟨w3, k3, f3, g3, -⟩ := nst_f0 hw9 hf9
      have q3 := f3
      have r3 := w3
      rw [hs5] at q3 r3
      obtain ⟨w2, k2, f2, g2, -⟩ := nst_f0 r3 q3
      have q2 := f2
      have r2 := w2
      rw [hs4] at q2 r2
      obtain ⟨w1, k1, f1, g1, -⟩ := nst_f0 r2 q2
      have q1 := f1
      have r1 := w1
      rw [hs3] at q1 r1
      obtain ⟨w0, k0, f0, g0, -⟩ := nst_f0 r1 q1
      rw [hs2, hss] at f0
      exact absurd f0 (rnt_f0 (by decide))
theorem m_plL20_ok (m0 : σ.2 y = some (.inr (.inr (10, mo y g)))) (m_all : σ.2 (y + 1) = some (.inl (0, 4500, A))) {rd : Nat → Int32} (m_read : σ.2 (y + 3) = some (.inl (0, 120, rd))) (ht : txt U n) (hA0 : ∀ p, p < n → A0 (10 + p) = nI (U p)) (hst : MSt0 U n A0 A g s) (hok : Rok U n s) (hw : Rw s = false) (hk : tK U n (Re s) = 3) (hW : tW U n (Re s) = 20) (h6 : P.1 ≤ 6) {c : Nat} (hrc : rd 0 = nI c) (hcb : c ≤ 600) (hrd : Rf s = 0 → mP rd 0 P) : RetX Γ m_M_planLine [.ref y] σ y (y + 4) none (fun τ => ∃ (g1 A1 rd1 : Nat → Int32) (ab1 : Bool), τ.2 y = some (.inr (.inr (10, mo y g1))) ∧ τ.2 (y + 1) = some (.inl (0, 4500, A1)) ∧ τ.2 (y + 3) = some (.inl (0, 120, rd1)) ∧ τ.2 (y + 2) = σ.2 (y + 2) ∧ MSt U n A0 A1 g1 (rel U n (chs U n (lpS U n 20 P s) (sitC U n (lpS U n 20 P s)))) ab1 ∧ rd1 0 = nI c ∧ (Rw (chs U n (lpS U n 20 P s) (sitC U n (lpS U n 20 P s))) = false → Rf (chs U n (lpS U n 20 P s) (sitC U n (lpS U n 20 P s))) = 0 → mP rd1 0 (LnQ (msk U n (lpS U n 20 P s) (sitC U n (lpS U n 20 P s))) P))) := by
  have hn6 := ht.1
  have h600 := tS0_le ht hok.1
  have hcP : Rf s = 0 → P.1 = c := fun f => nI_injL (by omega) (by omega) ((hrd f).1.symm.trans hrc)
  have he : sitEnd U n (lpS U n 20 P s) (sitC U n (lpS U n 20 P s)) := by
    refine sitC_ok ht (lstP_ok (lw1_ok ht hok (by omega) hw) (tE_st ht hok.1 (by omega))) ?_
    unfold lpS lstP
    split
    · exact rnt_w
    · split
      · exact rnt_w
      · rfl
  unfold RetX
  generalize hQ : ((fun (r0 : Option Value) (τ : ex_S) => r0 = none ∧ frm σ τ y (y + 4) ∧ (fun τ : ex_S => ∃ (g1 A1 rd1 : Nat → Int32) (ab1 : Bool), τ.2 y = some (.inr (.inr (10, mo y g1))) ∧ τ.2 (y + 1) = some (.inl (0, 4500, A1)) ∧ τ.2 (y + 3) = some (.inl (0, 120, rd1)) ∧ τ.2 (y + 2) = σ.2 (y + 2) ∧ MSt U n A0 A1 g1 (rel U n (chs U n (lpS U n 20 P s) (sitC U n (lpS U n 20 P s)))) ab1 ∧ rd1 0 = nI c ∧ (Rw (chs U n (lpS U n 20 P s) (sitC U n (lpS U n 20 P s))) = false → Rf (chs U n (lpS U n 20 P s) (sitC U n (lpS U n 20 P s))) = 0 → mP rd1 0 (LnQ (msk U n (lpS U n 20 P s) (sitC U n (lpS U n 20 P s))) P))) τ)) = Q
  refine Ret.start pm_184 rfl ?_
  have fr : frm σ σ y (y + 4) := frm.rf
  have m_has : σ.2 (y + 2) = σ.2 (y + 2) := rfl
  refine Ev.aload_n rfl rfl ?_
  refine Ev.getf rfl rfl m0 rfl ?_
  rw [hst.2.2.2.1.2.1]
  refine Ev.istore_n rfl rfl rfl ?_
  refine Ev.aload_n rfl rfl ?_
  refine Ev.bipush (v := 15) rfl (by decide) ?_
  refine Ev.bipush (v := 20) rfl (by decide) ?_
  refine Ev.xV2 rfl rfl m0 rfl rfl (by decide) ⟨(Nat.le_refl _), (Nat.le_refl _)⟩ (m_takes0_y (fi := 15) (la := 20) m0 m_all ht hA0 hst hok hw (by decide) ⟨hk, by rw [hW]; decide, by rw [hW]; decide⟩) (fun τ901 f9 q9 => ?_)
  obtain ⟨g901, A901, m0, m_all, hst⟩ := q9
  have m_read := frm.cell f9 m_read (by omega)
  have m_has := frm.cell f9 m_has (by omega)
  have fr := fr.step f9 (by omega) (by omega)
  rw [show nI (tW U n (Re s)) = (20 : Int32) from by rw [hW]; rfl]
  obtain ⟨s1, hs1⟩ : ∃ q : Rs, q = (false, tE U n (Re s), Rf s, Rp s) := ⟨_, rfl⟩
  rw [← hs1] at hst
  have hw1 : Rw s1 = false := by rw [hs1]; rfl
  have he1 : Re s1 = tE U n (Re s) := by rw [hs1]; rfl
  have hf1 : Rf s1 = Rf s := by rw [hs1]; rfl
  have hp1 : Rp s1 = Rp s := by rw [hs1]; rfl
  have hok0 := hok
  have hok : Rok U n s1 := by rw [hs1]; exact lw1_ok ht hok (by omega) hw
  have ha0 : tS0 U n (Re s) < tS0 U n (Re s1) := by rw [he1]; exact tE_st ht hok0.1 (by omega)
  have hpa : Rw s1 = false → ¬ Rf s1 = 0 → ∃ q, Rp s1 = nI q ∧ q < tS0 U n (Re s) := fun _ c => by
    rw [hp1]
    exact hok0.2.2 hw (by rw [← hf1]; exact c)
  refine Ev.istore_n rfl rfl rfl ?_
  refine Ev.iload_n rfl rfl ?_
  refine Ev.bipush (v := 20) rfl (by decide) ?_
  refine Ev.jne (tgt := 28) rfl (by decide) (fun c17 => absurd (by decide) c17) (fun c17 => ?_)
  refine Ev.aload_n rfl rfl ?_
  refine Ev.iload_n rfl rfl ?_
  have he1 : sitEnd U n (lstP 20 P s1 (tS0 U n (Re s))) (sitC U n (lpS U n 20 P s)) := by
    rw [hs1]
    exact he
  refine Ev.xV1u rfl rfl m0 rfl rfl (by decide) ⟨(Nat.le_refl _), (Nat.le_refl _)⟩ (m_sits_ok m0 m_all m_read ht hA0 hst hok hw1 h6 hrc hcb (fun f => hrd (hf1.symm.trans f)) ha0 hpa he1) (fun τ880 f9 q9 => ?_)
  obtain ⟨g880, A880, rd880, ab880, m0, m_all, m_read, q_has, hst, q_c, q_m⟩ := q9
  have m_has := q_has.trans m_has
  have fr := fr.step f9 (by omega) (by omega)
  have hok : Rok U n (chs U n (lstP 20 P s1 (tS0 U n (Re s))) (sitC U n (lpS U n 20 P s))) := chs_ok ht (lstP_ok hok ha0) _
  refine Ev.goto (tgt := 229) rfl (by decide) ?_
  refine Ev.aload_n rfl rfl ?_
  refine Ev.xV0u rfl rfl m0 rfl rfl (by decide) ⟨(Nat.le_refl _), (Nat.le_refl _)⟩ (m_endsL_ok m0 m_all ht hA0 hst hok) (fun τ902 f9 q9 => ?_)
  obtain ⟨g902, A902, m0, m_all, hst⟩ := q9
  have m_read := frm.cell f9 m_read (by omega)
  have m_has := frm.cell f9 m_has (by omega)
  have fr := fr.step f9 (by omega) (by omega)
  refine Ev.ret rfl rfl (Nat.le_refl _) (Nat.le_refl _) ?_
  subst hs1
  rw [← hQ]
  exact ⟨rfl, fr, _, _, _, _, m0, m_all, m_read, m_has, hst, q_c, q_m⟩
theorem m_no_sch (m0 : σ.2 y = some (.inr (.inr (10, mo y g)))) (m_all : σ.2 (y + 1) = some (.inl (0, 4500, A))) {rd : Nat → Int32} (m_read : σ.2 (y + 3) = some (.inl (0, 120, rd))) (ht : txt U n) (hA0 : ∀ p, p < n → A0 (10 + p) = nI (U p)) (hst : MSt0 U n A0 A g s) (hok : Rok U n s) (hw : Rw s = false) (hP : ¬ (tK U n (Re s) = 3 ∧ 1 ≤ tW U n (Re s) ∧ tW U n (Re s) ≤ 15)) : RetX Γ m_M_schoolLine [.ref y] σ y (y + 4) none (fun τ => ∃ (g1 A1 rd1 : Nat → Int32), τ.2 y = some (.inr (.inr (10, mo y g1))) ∧ τ.2 (y + 1) = some (.inl (0, 4500, A1)) ∧ τ.2 (y + 3) = some (.inl (0, 120, rd1)) ∧ τ.2 (y + 2) = σ.2 (y + 2) ∧ MSt0 U n A0 A1 g1 (true, Re s, Rf s, Rp s) ∧ rd1 = rd) := by
  have hn6 := ht.1
  unfold RetX
  generalize hQ : ((fun (r0 : Option Value) (τ : ex_S) => r0 = none ∧ frm σ τ y (y + 4) ∧ (fun τ : ex_S => ∃ (g1 A1 rd1 : Nat → Int32), τ.2 y = some (.inr (.inr (10, mo y g1))) ∧ τ.2 (y + 1) = some (.inl (0, 4500, A1)) ∧ τ.2 (y + 3) = some (.inl (0, 120, rd1)) ∧ τ.2 (y + 2) = σ.2 (y + 2) ∧ MSt0 U n A0 A1 g1 (true, Re s, Rf s, Rp s) ∧ rd1 = rd) τ)) = Q
  refine Ret.start pm_182 rfl ?_
  have fr : frm σ σ y (y + 4) := frm.rf
  have m_has : σ.2 (y + 2) = σ.2 (y + 2) := rfl
  refine Ev.aload_n rfl rfl ?_
  refine Ev.getf rfl rfl m0 rfl ?_
  rw [hst.2.2.2.1.2.1]
  refine Ev.istore_n rfl rfl rfl ?_
  refine Ev.aload_n rfl rfl ?_
  refine Ev.iconst (v := 1) rfl (by decide) ?_
  refine Ev.bipush (v := 15) rfl (by decide) ?_
  refine Ev.xV2 rfl rfl m0 rfl rfl (by decide) ⟨(Nat.le_refl _), (Nat.le_refl _)⟩ (m_takes0_n (fi := 1) (la := 15) m0 m_all ht hA0 hst hok hw (by decide) hP) (fun τ901 f9 q9 => ?_)
  obtain ⟨g901, A901, m0, m_all, hst⟩ := q9
  have m_read := frm.cell f9 m_read (by omega)
  have m_has := frm.cell f9 m_has (by omega)
  have fr := fr.step f9 (by omega) (by omega)
  have hok : Rok U n (true, Re s, Rf s, Rp s) := ⟨hok.1, hok.2.1, fun c => (nomatch c)⟩
  refine Ev.istore_n rfl rfl rfl ?_
  refine Ev.iload_n rfl rfl ?_
  refine Ev.iconst (v := 1) rfl (by decide) ?_
  refine Ev.jne (tgt := 23) rfl (by decide) (fun c15 => ?_) (fun c15 => absurd c15 (by decide))
  refine Ev.iload_n rfl rfl ?_
  refine Ev.iconst (v := 2) rfl (by decide) ?_
  refine Ev.jne (tgt := 32) rfl (by decide) (fun c25 => ?_) (fun c25 => absurd c25 (by decide))
  refine Ev.iload_n rfl rfl ?_
  refine Ev.iconst (v := 3) rfl (by decide) ?_
  refine Ev.jne (tgt := 91) rfl (by decide) (fun c34 => ?_) (fun c34 => absurd c34 (by decide))
  refine Ev.iload_n rfl rfl ?_
  refine Ev.iconst (v := 4) rfl (by decide) ?_
  refine Ev.jne (tgt := 101) rfl (by decide) (fun c93 => ?_) (fun c93 => absurd c93 (by decide))
  refine Ev.iload_n rfl rfl ?_
  refine Ev.iconst (v := 5) rfl (by decide) ?_
  refine Ev.jeq (tgt := 112) rfl (by decide) (fun c103 => absurd c103 (by decide)) (fun c103 => ?_)
  refine Ev.iload_n rfl rfl ?_
  refine Ev.bipush (v := 6) rfl (by decide) ?_
  refine Ev.jne (tgt := 126) rfl (by decide) (fun c109 => ?_) (fun c109 => absurd c109 (by decide))
  refine Ev.iload_n rfl rfl ?_
  refine Ev.bipush (v := 7) rfl (by decide) ?_
  refine Ev.jne (tgt := 158) rfl (by decide) (fun c129 => ?_) (fun c129 => absurd c129 (by decide))
  refine Ev.iload_n rfl rfl ?_
  refine Ev.bipush (v := 8) rfl (by decide) ?_
  refine Ev.jne (tgt := 195) rfl (by decide) (fun c161 => ?_) (fun c161 => absurd c161 (by decide))
  refine Ev.iload_n rfl rfl ?_
  refine Ev.bipush (v := 9) rfl (by decide) ?_
  refine Ev.jne (tgt := 215) rfl (by decide) (fun c198 => ?_) (fun c198 => absurd c198 (by decide))
  refine Ev.iload_n rfl rfl ?_
  refine Ev.bipush (v := 10) rfl (by decide) ?_
  refine Ev.jne (tgt := 236) rfl (by decide) (fun c218 => ?_) (fun c218 => absurd c218 (by decide))
  refine Ev.iload_n rfl rfl ?_
  refine Ev.bipush (v := 11) rfl (by decide) ?_
  refine Ev.jne (tgt := 257) rfl (by decide) (fun c239 => ?_) (fun c239 => absurd c239 (by decide))
  refine Ev.iload_n rfl rfl ?_
  refine Ev.bipush (v := 12) rfl (by decide) ?_
  refine Ev.jne (tgt := 277) rfl (by decide) (fun c260 => ?_) (fun c260 => absurd c260 (by decide))
  refine Ev.iload_n rfl rfl ?_
  refine Ev.bipush (v := 13) rfl (by decide) ?_
  refine Ev.jne (tgt := 297) rfl (by decide) (fun c280 => ?_) (fun c280 => absurd c280 (by decide))
  refine Ev.iload_n rfl rfl ?_
  refine Ev.bipush (v := 14) rfl (by decide) ?_
  refine Ev.jne (tgt := 317) rfl (by decide) (fun c300 => ?_) (fun c300 => absurd c300 (by decide))
  refine Ev.iload_n rfl rfl ?_
  refine Ev.bipush (v := 15) rfl (by decide) ?_
  refine Ev.jne (tgt := 338) rfl (by decide) (fun c320 => ?_) (fun c320 => absurd c320 (by decide))
  refine Ev.aload_n rfl rfl ?_
  refine Ev.xV0u rfl rfl m0 rfl rfl (by decide) ⟨(Nat.le_refl _), (Nat.le_refl _)⟩ (m_endsL0_ok m0 m_all hst rfl) (fun τ902 f9 q9 => ?_)
  obtain ⟨g902, A902, m0, m_all, hst⟩ := q9
  have m_read := frm.cell f9 m_read (by omega)
  have m_has := frm.cell f9 m_has (by omega)
  have fr := fr.step f9 (by omega) (by omega)
  refine Ev.ret rfl rfl (Nat.le_refl _) (Nat.le_refl _) ?_
  rw [← hQ]
  exact ⟨rfl, fr, _, _, _, m0, m_all, m_read, m_has, hst, rfl⟩
theorem m_no_pla (m0 : σ.2 y = some (.inr (.inr (10, mo y g)))) (m_all : σ.2 (y + 1) = some (.inl (0, 4500, A))) {rd : Nat → Int32} (m_read : σ.2 (y + 3) = some (.inl (0, 120, rd))) (ht : txt U n) (hA0 : ∀ p, p < n → A0 (10 + p) = nI (U p)) (hst : MSt0 U n A0 A g s) (hok : Rok U n s) (hw : Rw s = false) (hP : ¬ (tK U n (Re s) = 3 ∧ 15 ≤ tW U n (Re s) ∧ tW U n (Re s) ≤ 20)) : RetX Γ m_M_planLine [.ref y] σ y (y + 4) none (fun τ => ∃ (g1 A1 rd1 : Nat → Int32), τ.2 y = some (.inr (.inr (10, mo y g1))) ∧ τ.2 (y + 1) = some (.inl (0, 4500, A1)) ∧ τ.2 (y + 3) = some (.inl (0, 120, rd1)) ∧ τ.2 (y + 2) = σ.2 (y + 2) ∧ MSt0 U n A0 A1 g1 (true, Re s, Rf s, Rp s) ∧ rd1 = rd) := by
  have hn6 := ht.1
  unfold RetX
  generalize hQ : ((fun (r0 : Option Value) (τ : ex_S) => r0 = none ∧ frm σ τ y (y + 4) ∧ (fun τ : ex_S => ∃ (g1 A1 rd1 : Nat → Int32), τ.2 y = some (.inr (.inr (10, mo y g1))) ∧ τ.2 (y + 1) = some (.inl (0, 4500, A1)) ∧ τ.2 (y + 3) = some (.inl (0, 120, rd1)) ∧ τ.2 (y + 2) = σ.2 (y + 2) ∧ MSt0 U n A0 A1 g1 (true, Re s, Rf s, Rp s) ∧ rd1 = rd) τ)) = Q
  refine Ret.start pm_184 rfl ?_
  have fr : frm σ σ y (y + 4) := frm.rf
  have m_has : σ.2 (y + 2) = σ.2 (y + 2) := rfl
  refine Ev.aload_n rfl rfl ?_
  refine Ev.getf rfl rfl m0 rfl ?_
  rw [hst.2.2.2.1.2.1]
  refine Ev.istore_n rfl rfl rfl ?_
  refine Ev.aload_n rfl rfl ?_
  refine Ev.bipush (v := 15) rfl (by decide) ?_
  refine Ev.bipush (v := 20) rfl (by decide) ?_
  refine Ev.xV2 rfl rfl m0 rfl rfl (by decide) ⟨(Nat.le_refl _), (Nat.le_refl _)⟩ (m_takes0_n (fi := 15) (la := 20) m0 m_all ht hA0 hst hok hw (by decide) hP) (fun τ901 f9 q9 => ?_)
  obtain ⟨g901, A901, m0, m_all, hst⟩ := q9
  have m_read := frm.cell f9 m_read (by omega)
  have m_has := frm.cell f9 m_has (by omega)
  have fr := fr.step f9 (by omega) (by omega)
  have hok : Rok U n (true, Re s, Rf s, Rp s) := ⟨hok.1, hok.2.1, fun c => (nomatch c)⟩
  refine Ev.istore_n rfl rfl rfl ?_
  refine Ev.iload_n rfl rfl ?_
  refine Ev.bipush (v := 20) rfl (by decide) ?_
  refine Ev.jne (tgt := 28) rfl (by decide) (fun c17 => ?_) (fun c17 => absurd c17 (by decide))
  refine Ev.iload_n rfl rfl ?_
  refine Ev.zle (tgt := 229) rfl (by decide) (fun c29 => ?_) (fun c29 => absurd c29 (by decide))
  refine Ev.aload_n rfl rfl ?_
  refine Ev.xV0u rfl rfl m0 rfl rfl (by decide) ⟨(Nat.le_refl _), (Nat.le_refl _)⟩ (m_endsL0_ok m0 m_all hst rfl) (fun τ902 f9 q9 => ?_)
  obtain ⟨g902, A902, m0, m_all, hst⟩ := q9
  have m_read := frm.cell f9 m_read (by omega)
  have m_has := frm.cell f9 m_has (by omega)
  have fr := fr.step f9 (by omega) (by omega)
  refine Ev.ret rfl rfl (Nat.le_refl _) (Nat.le_refl _) ?_
  rw [← hQ]
  exact ⟨rfl, fr, _, _, _, m0, m_all, m_read, m_has, hst, rfl⟩
end
end
