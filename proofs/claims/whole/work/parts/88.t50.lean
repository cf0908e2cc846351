/-! Texts of schools (reference): a line. -/
noncomputable section
/-- a line of a school: behind its word; its readings; its numbers -/
def lw1 (U : Nat → Nat) (n : Nat) (s : Rs) : Rs := (false, tE U n (Re s), Rf s, Rp s)
def lnS (U : Nat → Nat) (n k : Nat) (S : Sch) (s : Rs) : Rs := lstS k S (lw1 U n s) (tS0 U n (Re s))
def lnX (U : Nat → Nat) (n k : Nat) (S : Sch) (s : Rs) : Rs := chn U n k S.1 (lnS U n k S s) (NUl.getD k 0)
def lnN (U : Nat → Nat) (n k : Nat) (S : Sch) (s : Rs) : Nat → Nat := nus U n k S.1 (lnS U n k S s)
section
variable {U : Nat → Nat} {n : Nat} {s : Rs}
theorem lw1_ok (ht : txt U n) (h : Rok U n s) (hk : ¬ tK U n (Re s) = 0) (hw : Rw s = false) : Rok U n (lw1 U n s) := by
  refine ⟨(tE_le ht h.1).2, h.2.1, fun _ f => ?_⟩
  obtain ⟨q, q1, q2⟩ := h.2.2 hw f
  exact ⟨q, q1, Nat.lt_trans q2 (tE_st ht h.1 hk)⟩
theorem lstS_ok {k a : Nat} {S : Sch} (h : Rok U n s) (ha : a < tS0 U n (Re s)) : Rok U n (lstS k S s a) := by
  unfold lstS
  split
  · exact rnt_ok h (by decide) (fun _ => ha)
  · exact h
theorem chn_ok {k L : Nat} (ht : txt U n) (h : Rok U n s) : ∀ j, Rok U n (chn U n k L s j)
  | 0 => h
  | j + 1 => nst_ok ht (chn_ok ht h j)
end
theorem S_ar_2 {S : Sch} {j : Nat} {f g : Nat → Int32} : S_ar (S_ar S j f) j g = S_ar S j g := by
  unfold S_ar
  refine congrArg (fun h => (S.1, S.2.1, h)) (funext fun i => ?_)
  by_cases c : i = j
  · rw [if_pos c, if_pos c]
  · rw [if_neg c, if_neg c]
    exact if_neg c
theorem mS_9b {S : Sch} {rd : Nat → Int32} {j k : Nat} {v w : Int32} (h : mS rd 0 S) (h16 : S.1 ≤ 16) (h5 : S.2.1 ≤ 5) (hj : j < 11) (hk : k < 11) : mS (upd (upd rd (2 + j) v) (2 + k) w) 0 (S_ar S 9 (upd (upd (S.2.2 9) j v) k w)) := by
  have q := mS_9 (j := k) (v := w) (mS_9 (j := j) (v := v) h h16 h5 hj) h16 h5 hk
  rw [S_ar_2] at q
  exact q
section
variable {Γ : ex_G} {σ : ex_S} {x q a p y : Nat} {S : Sch} {T : Tol} {P : Pln} {g A : Nat → Int32}
variable {U : Nat → Nat} {n : Nat} {A0 : Nat → Int32} {s : Rs} {ab : Bool}
theorem m_schL0_ok (m0 : σ.2 y = some (.inr (.inr (10, mo y g)))) (m_all : σ.2 (y + 1) = some (.inl (0, 4500, A))) {rd : Nat → Int32} (m_read : σ.2 (y + 3) = some (.inl (0, 120, rd))) (ht : txt U n) (hA0 : ∀ p, p < n → A0 (10 + p) = nI (U p)) (hst : MSt0 U n A0 A g s) (hok : Rok U n s) (hw : Rw s = false) (hk : tK U n (Re s) = 3) (hW : tW U n (Re s) = 1) (hwS : wS S) {b : Nat} (hb : b ≤ 600) (hSF : SF b rd) (hrd : Rf s = 0 → mS rd 0 S) : RetX Γ m_M_schoolLine [.ref y] σ y (y + 4) none (fun τ => ∃ (g1 A1 rd1 : Nat → Int32) (ab1 : Bool), τ.2 y = some (.inr (.inr (10, mo y g1))) ∧ τ.2 (y + 1) = some (.inl (0, 4500, A1)) ∧ τ.2 (y + 3) = some (.inl (0, 120, rd1)) ∧ τ.2 (y + 2) = σ.2 (y + 2) ∧ MSt U n A0 A1 g1 (rel U n (lnX U n 0 S s)) ab1 ∧ SF (b + 1) rd1 ∧ (Rw (lnX U n 0 S s) = false → Rf (lnX U n 0 S s) = 0 → mS rd1 0 (LnF 0 (lnN U n 0 S s) S))) := by
  have hn6 := ht.1
  have hn16 := hwS.1
  have hn5 := hwS.2.1
  have h600 := tS0_le ht hok.1
  obtain ⟨⟨L, hL, hLb⟩, ⟨tc, htc, htb⟩, hpt, ⟨ls, hls, hls1, hls2⟩⟩ := id hSF
  have hLS : Rf s = 0 → L = S.1 := fun f => nI_injL (by omega) (by omega) (hL.symm.trans (hrd f).1)
  unfold RetX
  generalize hQ : ((fun (r0 : Option Value) (τ : ex_S) => r0 = none ∧ frm σ τ y (y + 4) ∧ (fun τ : ex_S => ∃ (g1 A1 rd1 : Nat → Int32) (ab1 : Bool), τ.2 y = some (.inr (.inr (10, mo y g1))) ∧ τ.2 (y + 1) = some (.inl (0, 4500, A1)) ∧ τ.2 (y + 3) = some (.inl (0, 120, rd1)) ∧ τ.2 (y + 2) = σ.2 (y + 2) ∧ MSt U n A0 A1 g1 (rel U n (lnX U n 0 S s)) ab1 ∧ SF (b + 1) rd1 ∧ (Rw (lnX U n 0 S s) = false → Rf (lnX U n 0 S s) = 0 → mS rd1 0 (LnF 0 (lnN U n 0 S s) S))) τ)) = Q
  refine Ret.start pm_182 rfl ?_
  have fr : frm σ σ y (y + 4) := frm.rf
  have m_has : σ.2 (y + 2) = σ.2 (y + 2) := rfl
  refine Ev.aload_n rfl rfl ?_
  refine Ev.getf rfl rfl m0 rfl ?_
  rw [hst.2.2.2.1.2.1]
  refine Ev.istore_n rfl rfl rfl ?_
  refine Ev.aload_n rfl rfl ?_
  refine Ev.iconst (v := 1) rfl (by decide) ?_
  refine Ev.bipush (v := 15) rfl (by decide) ?_
  refine Ev.xV2 rfl rfl m0 rfl rfl (by decide) ⟨(Nat.le_refl _), (Nat.le_refl _)⟩ (m_takes0_y (fi := 1) (la := 15) m0 m_all ht hA0 hst hok hw (by decide) ⟨hk, by rw [hW]; decide, by rw [hW]; decide⟩) (fun τ901 f9 q9 => ?_)
  obtain ⟨g901, A901, m0, m_all, hst⟩ := q9
  have m_read := frm.cell f9 m_read (by omega)
  have m_has := frm.cell f9 m_has (by omega)
  have fr := fr.step f9 (by omega) (by omega)
  rw [show nI (tW U n (Re s)) = (1 : Int32) from by rw [hW]; rfl]
  obtain ⟨s1, hs1⟩ : ∃ q : Rs, q = (false, tE U n (Re s), Rf s, Rp s) := ⟨_, rfl⟩
  rw [← hs1] at hst
  have hw1 : Rw s1 = false := by rw [hs1]; rfl
  have he1 : Re s1 = tE U n (Re s) := by rw [hs1]; rfl
  have hf1 : Rf s1 = Rf s := by rw [hs1]; rfl
  have hp1 : Rp s1 = Rp s := by rw [hs1]; rfl
  have hok0 := hok
  have hok : Rok U n s1 := by rw [hs1]; exact lw1_ok ht hok (by omega) hw
  have ha0 : tS0 U n (Re s) < tS0 U n (Re s1) := by rw [he1]; exact tE_st ht hok0.1 (by omega)
  have hpa : Rw s1 = false → ¬ Rf s1 = 0 → ∃ q, Rp s1 = nI q ∧ q < tS0 U n (Re s) := fun _ c => by
    rw [hp1]
    exact hok0.2.2 hw (by rw [← hf1]; exact c)
  refine Ev.istore_n rfl rfl rfl ?_
  refine Ev.iload_n rfl rfl ?_
  refine Ev.iconst (v := 1) rfl (by decide) ?_
  refine Ev.jne (tgt := 23) rfl (by decide) (fun c15 => absurd (by decide) c15) (fun c15 => ?_)
  refine Ev.aload_n rfl rfl ?_
  refine Ev.iload_n rfl rfl ?_
  refine Ev.xV1u rfl rfl m0 rfl rfl (by decide) ⟨(Nat.le_refl _), (Nat.le_refl _)⟩ (m_lrnL_ok m0 m_all m_read ht hA0 hst hok hwS hb hSF (fun f => hrd (hf1.symm.trans f)) ha0 hpa) (fun τ880 f9 q9 => ?_)
  obtain ⟨g880, A880, rd880, ab880, m0, m_all, m_read, q_has, hst, q_SF, q_mS⟩ := q9
  have m_has := q_has.trans m_has
  have fr := fr.step f9 (by omega) (by omega)
  obtain ⟨s9, hs9⟩ : ∃ q, q = chn U n 0 S.1 (lstS 0 S s1 (tS0 U n (Re s))) 3 := ⟨_, rfl⟩
  rw [← hs9] at hst q_mS
  have hok : Rok U n s9 := by
    rw [hs9]
    exact chn_ok ht (lstS_ok hok ha0) _
  refine Ev.iload_n rfl rfl ?_
  refine Ev.iconst (v := 2) rfl (by decide) ?_
  refine Ev.jne (tgt := 32) rfl (by decide) (fun c25 => ?_) (fun c25 => absurd c25 (by decide))
  refine Ev.iload_n rfl rfl ?_
  refine Ev.iconst (v := 3) rfl (by decide) ?_
  refine Ev.jne (tgt := 91) rfl (by decide) (fun c34 => ?_) (fun c34 => absurd c34 (by decide))
  refine Ev.iload_n rfl rfl ?_
  refine Ev.iconst (v := 4) rfl (by decide) ?_
  refine Ev.jne (tgt := 101) rfl (by decide) (fun c93 => ?_) (fun c93 => absurd c93 (by decide))
  refine Ev.iload_n rfl rfl ?_
  refine Ev.iconst (v := 5) rfl (by decide) ?_
  refine Ev.jeq (tgt := 112) rfl (by decide) (fun c103 => absurd c103 (by decide)) (fun c103 => ?_)
  refine Ev.iload_n rfl rfl ?_
  refine Ev.bipush (v := 6) rfl (by decide) ?_
  refine Ev.jne (tgt := 126) rfl (by decide) (fun c109 => ?_) (fun c109 => absurd c109 (by decide))
  refine Ev.iload_n rfl rfl ?_
  refine Ev.bipush (v := 7) rfl (by decide) ?_
  refine Ev.jne (tgt := 158) rfl (by decide) (fun c129 => ?_) (fun c129 => absurd c129 (by decide))
  refine Ev.iload_n rfl rfl ?_
  refine Ev.bipush (v := 8) rfl (by decide) ?_
  refine Ev.jne (tgt := 195) rfl (by decide) (fun c161 => ?_) (fun c161 => absurd c161 (by decide))
  refine Ev.iload_n rfl rfl ?_
  refine Ev.bipush (v := 9) rfl (by decide) ?_
  refine Ev.jne (tgt := 215) rfl (by decide) (fun c198 => ?_) (fun c198 => absurd c198 (by decide))
  refine Ev.iload_n rfl rfl ?_
  refine Ev.bipush (v := 10) rfl (by decide) ?_
  refine Ev.jne (tgt := 236) rfl (by decide) (fun c218 => ?_) (fun c218 => absurd c218 (by decide))
  refine Ev.iload_n rfl rfl ?_
  refine Ev.bipush (v := 11) rfl (by decide) ?_
  refine Ev.jne (tgt := 257) rfl (by decide) (fun c239 => ?_) (fun c239 => absurd c239 (by decide))
  refine Ev.iload_n rfl rfl ?_
  refine Ev.bipush (v := 12) rfl (by decide) ?_
  refine Ev.jne (tgt := 277) rfl (by decide) (fun c260 => ?_) (fun c260 => absurd c260 (by decide))
  refine Ev.iload_n rfl rfl ?_
  refine Ev.bipush (v := 13) rfl (by decide) ?_
  refine Ev.jne (tgt := 297) rfl (by decide) (fun c280 => ?_) (fun c280 => absurd c280 (by decide))
  refine Ev.iload_n rfl rfl ?_
  refine Ev.bipush (v := 14) rfl (by decide) ?_
  refine Ev.jne (tgt := 317) rfl (by decide) (fun c300 => ?_) (fun c300 => absurd c300 (by decide))
  refine Ev.iload_n rfl rfl ?_
  refine Ev.bipush (v := 15) rfl (by decide) ?_
  refine Ev.jne (tgt := 338) rfl (by decide) (fun c320 => ?_) (fun c320 => absurd c320 (by decide))
  refine Ev.aload_n rfl rfl ?_
  refine Ev.xV0u rfl rfl m0 rfl rfl (by decide) ⟨(Nat.le_refl _), (Nat.le_refl _)⟩ (m_endsL_ok m0 m_all ht hA0 hst hok) (fun τ902 f9 q9 => ?_)
  obtain ⟨g902, A902, m0, m_all, hst⟩ := q9
  have m_read := frm.cell f9 m_read (by omega)
  have m_has := frm.cell f9 m_has (by omega)
  have fr := fr.step f9 (by omega) (by omega)
  refine Ev.ret rfl rfl (Nat.le_refl _) (Nat.le_refl _) ?_
  subst hs1
  subst hs9
  rw [← hQ]
  exact ⟨rfl, fr, _, _, _, _, m0, m_all, m_read, m_has, hst, q_SF, q_mS⟩
theorem m_schL1_ok (m0 : σ.2 y = some (.inr (.inr (10, mo y g)))) (m_all : σ.2 (y + 1) = some (.inl (0, 4500, A))) {rd : Nat → Int32} (m_read : σ.2 (y + 3) = some (.inl (0, 120, rd))) (ht : txt U n) (hA0 : ∀ p, p < n → A0 (10 + p) = nI (U p)) (hst : MSt0 U n A0 A g s) (hok : Rok U n s) (hw : Rw s = false) (hk : tK U n (Re s) = 3) (hW : tW U n (Re s) = 2) (hwS : wS S) {b : Nat} (hb : b ≤ 600) (hSF : SF b rd) (hrd : Rf s = 0 → mS rd 0 S) : RetX Γ m_M_schoolLine [.ref y] σ y (y + 4) none (fun τ => ∃ (g1 A1 rd1 : Nat → Int32) (ab1 : Bool), τ.2 y = some (.inr (.inr (10, mo y g1))) ∧ τ.2 (y + 1) = some (.inl (0, 4500, A1)) ∧ τ.2 (y + 3) = some (.inl (0, 120, rd1)) ∧ τ.2 (y + 2) = σ.2 (y + 2) ∧ MSt U n A0 A1 g1 (rel U n (lnX U n 1 S s)) ab1 ∧ SF (b + 1) rd1 ∧ (Rw (lnX U n 1 S s) = false → Rf (lnX U n 1 S s) = 0 → mS rd1 0 (LnF 1 (lnN U n 1 S s) S))) := by
  have hn6 := ht.1
  have hn16 := hwS.1
  have hn5 := hwS.2.1
  have h600 := tS0_le ht hok.1
  obtain ⟨⟨L, hL, hLb⟩, ⟨tc, htc, htb⟩, hpt, ⟨ls, hls, hls1, hls2⟩⟩ := id hSF
  have hLS : Rf s = 0 → L = S.1 := fun f => nI_injL (by omega) (by omega) (hL.symm.trans (hrd f).1)
  unfold RetX
  generalize hQ : ((fun (r0 : Option Value) (τ : ex_S) => r0 = none ∧ frm σ τ y (y + 4) ∧ (fun τ : ex_S => ∃ (g1 A1 rd1 : Nat → Int32) (ab1 : Bool), τ.2 y = some (.inr (.inr (10, mo y g1))) ∧ τ.2 (y + 1) = some (.inl (0, 4500, A1)) ∧ τ.2 (y + 3) = some (.inl (0, 120, rd1)) ∧ τ.2 (y + 2) = σ.2 (y + 2) ∧ MSt U n A0 A1 g1 (rel U n (lnX U n 1 S s)) ab1 ∧ SF (b + 1) rd1 ∧ (Rw (lnX U n 1 S s) = false → Rf (lnX U n 1 S s) = 0 → mS rd1 0 (LnF 1 (lnN U n 1 S s) S))) τ)) = Q
  refine Ret.start pm_182 rfl ?_
  have fr : frm σ σ y (y + 4) := frm.rf
  have m_has : σ.2 (y + 2) = σ.2 (y + 2) := rfl
  refine Ev.aload_n rfl rfl ?_
  refine Ev.getf rfl rfl m0 rfl ?_
  rw [hst.2.2.2.1.2.1]
  refine Ev.istore_n rfl rfl rfl ?_
  refine Ev.aload_n rfl rfl ?_
  refine Ev.iconst (v := 1) rfl (by decide) ?_
  refine Ev.bipush (v := 15) rfl (by decide) ?_
  refine Ev.xV2 rfl rfl m0 rfl rfl (by decide) ⟨(Nat.le_refl _), (Nat.le_refl _)⟩ (m_takes0_y (fi := 1) (la := 15) m0 m_all ht hA0 hst hok hw (by decide) ⟨hk, by rw [hW]; decide, by rw [hW]; decide⟩) (fun τ901 f9 q9 => ?_)
  obtain ⟨g901, A901, m0, m_all, hst⟩ := q9
  have m_read := frm.cell f9 m_read (by omega)
  have m_has := frm.cell f9 m_has (by omega)
  have fr := fr.step f9 (by omega) (by omega)
  rw [show nI (tW U n (Re s)) = (2 : Int32) from by rw [hW]; rfl]
  obtain ⟨s1, hs1⟩ : ∃ q : Rs, q = (false, tE U n (Re s), Rf s, Rp s) := ⟨_, rfl⟩
  rw [← hs1] at hst
  have hw1 : Rw s1 = false := by rw [hs1]; rfl
  have he1 : Re s1 = tE U n (Re s) := by rw [hs1]; rfl
  have hf1 : Rf s1 = Rf s := by rw [hs1]; rfl
  have hp1 : Rp s1 = Rp s := by rw [hs1]; rfl
  have hok0 := hok
  have hok : Rok U n s1 := by rw [hs1]; exact lw1_ok ht hok (by omega) hw
  have ha0 : tS0 U n (Re s) < tS0 U n (Re s1) := by rw [he1]; exact tE_st ht hok0.1 (by omega)
  have hpa : Rw s1 = false → ¬ Rf s1 = 0 → ∃ q, Rp s1 = nI q ∧ q < tS0 U n (Re s) := fun _ c => by
    rw [hp1]
    exact hok0.2.2 hw (by rw [← hf1]; exact c)
  refine Ev.istore_n rfl rfl rfl ?_
  refine Ev.iload_n rfl rfl ?_
  refine Ev.iconst (v := 1) rfl (by decide) ?_
  refine Ev.jne (tgt := 23) rfl (by decide) (fun c15 => ?_) (fun c15 => absurd c15 (by decide))
  refine Ev.iload_n rfl rfl ?_
  refine Ev.iconst (v := 2) rfl (by decide) ?_
  refine Ev.jne (tgt := 32) rfl (by decide) (fun c25 => absurd (by decide) c25) (fun c25 => ?_)
  refine Ev.aload_n rfl rfl ?_
  refine Ev.xV0u rfl rfl m0 rfl rfl (by decide) ⟨(Nat.le_refl _), (Nat.le_refl _)⟩ (m_cplL_ok m0 m_all m_read ht hA0 hst hok hwS hb hSF (fun f => hrd (hf1.symm.trans f)) hw1) (fun τ880 f9 q9 => ?_)
  obtain ⟨g880, A880, rd880, ab880, m0, m_all, m_read, q_has, hst, q_SF, q_mS⟩ := q9
  have m_has := q_has.trans m_has
  have fr := fr.step f9 (by omega) (by omega)
  obtain ⟨s9, hs9⟩ : ∃ q, q = chn U n 1 S.1 s1 2 := ⟨_, rfl⟩
  rw [← hs9] at hst q_mS
  have hok : Rok U n s9 := by
    rw [hs9]
    exact chn_ok ht hok _
  refine Ev.iload_n rfl rfl ?_
  refine Ev.iconst (v := 3) rfl (by decide) ?_
  refine Ev.jne (tgt := 91) rfl (by decide) (fun c34 => ?_) (fun c34 => absurd c34 (by decide))
  refine Ev.iload_n rfl rfl ?_
  refine Ev.iconst (v := 4) rfl (by decide) ?_
  refine Ev.jne (tgt := 101) rfl (by decide) (fun c93 => ?_) (fun c93 => absurd c93 (by decide))
  refine Ev.iload_n rfl rfl ?_
  refine Ev.iconst (v := 5) rfl (by decide) ?_
  refine Ev.jeq (tgt := 112) rfl (by decide) (fun c103 => absurd c103 (by decide)) (fun c103 => ?_)
  refine Ev.iload_n rfl rfl ?_
  refine Ev.bipush (v := 6) rfl (by decide) ?_
  refine Ev.jne (tgt := 126) rfl (by decide) (fun c109 => ?_) (fun c109 => absurd c109 (by decide))
  refine Ev.iload_n rfl rfl ?_
  refine Ev.bipush (v := 7) rfl (by decide) ?_
  refine Ev.jne (tgt := 158) rfl (by decide) (fun c129 => ?_) (fun c129 => absurd c129 (by decide))
  refine Ev.iload_n rfl rfl ?_
  refine Ev.bipush (v := 8) rfl (by decide) ?_
  refine Ev.jne (tgt := 195) rfl (by decide) (fun c161 => ?_) (fun c161 => absurd c161 (by decide))
  refine Ev.iload_n rfl rfl ?_
  refine Ev.bipush (v := 9) rfl (by decide) ?_
  refine Ev.jne (tgt := 215) rfl (by decide) (fun c198 => ?_) (fun c198 => absurd c198 (by decide))
  refine Ev.iload_n rfl rfl ?_
  refine Ev.bipush (v := 10) rfl (by decide) ?_
  refine Ev.jne (tgt := 236) rfl (by decide) (fun c218 => ?_) (fun c218 => absurd c218 (by decide))
  refine Ev.iload_n rfl rfl ?_
  refine Ev.bipush (v := 11) rfl (by decide) ?_
  refine Ev.jne (tgt := 257) rfl (by decide) (fun c239 => ?_) (fun c239 => absurd c239 (by decide))
  refine Ev.iload_n rfl rfl ?_
  refine Ev.bipush (v := 12) rfl (by decide) ?_
  refine Ev.jne (tgt := 277) rfl (by decide) (fun c260 => ?_) (fun c260 => absurd c260 (by decide))
  refine Ev.iload_n rfl rfl ?_
  refine Ev.bipush (v := 13) rfl (by decide) ?_
  refine Ev.jne (tgt := 297) rfl (by decide) (fun c280 => ?_) (fun c280 => absurd c280 (by decide))
  refine Ev.iload_n rfl rfl ?_
  refine Ev.bipush (v := 14) rfl (by decide) ?_
  refine Ev.jne (tgt := 317) rfl (by decide) (fun c300 => ?_) (fun c300 => absurd c300 (by decide))
  refine Ev.iload_n rfl rfl ?_
  refine Ev.bipush (v := 15) rfl (by decide) ?_
  refine Ev.jne (tgt := 338) rfl (by decide) (fun c320 => ?_) (fun c320 => absurd c320 (by decide))
  refine Ev.aload_n rfl rfl ?_
  refine Ev.xV0u rfl rfl m0 rfl rfl (by decide) ⟨(Nat.le_refl _), (Nat.le_refl _)⟩ (m_endsL_ok m0 m_all ht hA0 hst hok) (fun τ902 f9 q9 => ?_)
  obtain ⟨g902, A902, m0, m_all, hst⟩ := q9
  have m_read := frm.cell f9 m_read (by omega)
  have m_has := frm.cell f9 m_has (by omega)
  have fr := fr.step f9 (by omega) (by omega)
  refine Ev.ret rfl rfl (Nat.le_refl _) (Nat.le_refl _) ?_
  have hls : lstS 1 S s1 (tS0 U n (Re s)) = s1 := by
    unfold lstS
    exact if_neg (by omega)
  have hX : lnX U n 1 S s = s9 := by
    unfold lnX lnS lw1
    rw [← hs1, hls]
    show chn U n 1 S.1 s1 2 = s9
    exact hs9.symm
  have hN : lnN U n 1 S s = nus U n 1 S.1 s1 := by
    unfold lnN lnS lw1
    rw [← hs1, hls]
  rw [← hQ, hX, hN]
  exact ⟨rfl, fr, _, _, _, _, m0, m_all, m_read, m_has, hst, q_SF, q_mS⟩
theorem m_schL2_ok (m0 : σ.2 y = some (.inr (.inr (10, mo y g)))) (m_all : σ.2 (y + 1) = some (.inl (0, 4500, A))) {rd : Nat → Int32} (m_read : σ.2 (y + 3) = some (.inl (0, 120, rd))) (ht : txt U n) (hA0 : ∀ p, p < n → A0 (10 + p) = nI (U p)) (hst : MSt0 U n A0 A g s) (hok : Rok U n s) (hw : Rw s = false) (hk : tK U n (Re s) = 3) (hW : tW U n (Re s) = 3) (hwS : wS S) {b : Nat} (hb : b ≤ 600) (hSF : SF b rd) (hrd : Rf s = 0 → mS rd 0 S) : RetX Γ m_M_schoolLine [.ref y] σ y (y + 4) none (fun τ => ∃ (g1 A1 rd1 : Nat → Int32) (ab1 : Bool), τ.2 y = some (.inr (.inr (10, mo y g1))) ∧ τ.2 (y + 1) = some (.inl (0, 4500, A1)) ∧ τ.2 (y + 3) = some (.inl (0, 120, rd1)) ∧ τ.2 (y + 2) = σ.2 (y + 2) ∧ MSt U n A0 A1 g1 (rel U n (lnX U n 2 S s)) ab1 ∧ SF (b + 1) rd1 ∧ (Rw (lnX U n 2 S s) = false → Rf (lnX U n 2 S s) = 0 → mS rd1 0 (LnF 2 (lnN U n 2 S s) S))) := by
  have hn6 := ht.1
  have hn16 := hwS.1
  have hn5 := hwS.2.1
  have h600 := tS0_le ht hok.1
  obtain ⟨⟨L, hL, hLb⟩, ⟨tc, htc, htb⟩, hpt, ⟨ls, hls, hls1, hls2⟩⟩ := id hSF
  have hLS : Rf s = 0 → L = S.1 := fun f => nI_injL (by omega) (by omega) (hL.symm.trans (hrd f).1)
  unfold RetX
  generalize hQ : ((fun (r0 : Option Value) (τ : ex_S) => r0 = none ∧ frm σ τ y (y + 4) ∧ (fun τ : ex_S => ∃ (g1 A1 rd1 : Nat → Int32) (ab1 : Bool), τ.2 y = some (.inr (.inr (10, mo y g1))) ∧ τ.2 (y + 1) = some (.inl (0, 4500, A1)) ∧ τ.2 (y + 3) = some (.inl (0, 120, rd1)) ∧ τ.2 (y + 2) = σ.2 (y + 2) ∧ MSt U n A0 A1 g1 (rel U n (lnX U n 2 S s)) ab1 ∧ SF (b + 1) rd1 ∧ (Rw (lnX U n 2 S s) = false → Rf (lnX U n 2 S s) = 0 → mS rd1 0 (LnF 2 (lnN U n 2 S s) S))) τ)) = Q
  refine Ret.start pm_182 rfl ?_
  have fr : frm σ σ y (y + 4) := frm.rf
  have m_has : σ.2 (y + 2) = σ.2 (y + 2) := rfl
  refine Ev.aload_n rfl rfl ?_
  refine Ev.getf rfl rfl m0 rfl ?_
  rw [hst.2.2.2.1.2.1]
  refine Ev.istore_n rfl rfl rfl ?_
  refine Ev.aload_n rfl rfl ?_
  refine Ev.iconst (v := 1) rfl (by decide) ?_
  refine Ev.bipush (v := 15) rfl (by decide) ?_
  refine Ev.xV2 rfl rfl m0 rfl rfl (by decide) ⟨(Nat.le_refl _), (Nat.le_refl _)⟩ (m_takes0_y (fi := 1) (la := 15) m0 m_all ht hA0 hst hok hw (by decide) ⟨hk, by rw [hW]; decide, by rw [hW]; decide⟩) (fun τ901 f9 q9 => ?_)
  obtain ⟨g901, A901, m0, m_all, hst⟩ := q9
  have m_read := frm.cell f9 m_read (by omega)
  have m_has := frm.cell f9 m_has (by omega)
  have fr := fr.step f9 (by omega) (by omega)
  rw [show nI (tW U n (Re s)) = (3 : Int32) from by rw [hW]; rfl]
  obtain ⟨s1, hs1⟩ : ∃ q : Rs, q = (false, tE U n (Re s), Rf s, Rp s) := ⟨_, rfl⟩
  rw [← hs1] at hst
  have hw1 : Rw s1 = false := by rw [hs1]; rfl
  have he1 : Re s1 = tE U n (Re s) := by rw [hs1]; rfl
  have hf1 : Rf s1 = Rf s := by rw [hs1]; rfl
  have hp1 : Rp s1 = Rp s := by rw [hs1]; rfl
  have hok0 := hok
  have hok : Rok U n s1 := by rw [hs1]; exact lw1_ok ht hok (by omega) hw
  have ha0 : tS0 U n (Re s) < tS0 U n (Re s1) := by rw [he1]; exact tE_st ht hok0.1 (by omega)
  have hpa : Rw s1 = false → ¬ Rf s1 = 0 → ∃ q, Rp s1 = nI q ∧ q < tS0 U n (Re s) := fun _ c => by
    rw [hp1]
    exact hok0.2.2 hw (by rw [← hf1]; exact c)
  refine Ev.istore_n rfl rfl rfl ?_
  refine Ev.iload_n rfl rfl ?_
  refine Ev.iconst (v := 1) rfl (by decide) ?_
  refine Ev.jne (tgt := 23) rfl (by decide) (fun c15 => ?_) (fun c15 => absurd c15 (by decide))
  refine Ev.iload_n rfl rfl ?_
  refine Ev.iconst (v := 2) rfl (by decide) ?_
  refine Ev.jne (tgt := 32) rfl (by decide) (fun c25 => ?_) (fun c25 => absurd c25 (by decide))
  refine Ev.iload_n rfl rfl ?_
  refine Ev.iconst (v := 3) rfl (by decide) ?_
  refine Ev.jne (tgt := 91) rfl (by decide) (fun c34 => absurd (by decide) c34) (fun c34 => ?_)
  refine Ev.aload_n rfl rfl ?_
  refine Ev.iconst (v := 0) rfl (by decide) ?_
  refine Ev.aload_n rfl rfl ?_
  refine Ev.getf rfl rfl m0 rfl ?_
  refine Ev.iconst (v := 0) rfl (by decide) ?_
  refine Ev.ialdN (k := 0) rfl m_read (rfl : (0 : Int32) = nI 0) ⟨(by omega), by decide⟩ ?_
  rw [show rd 0 = nI L from hL]
  refine Ev.iconst (v := 1) rfl (by decide) ?_
  refine Ev.isub rfl ?_
  refine Ev.xV2 rfl rfl m0 rfl rfl (by decide) ⟨(Nat.le_refl _), (Nat.le_refl _)⟩ (m_numb_ok m0 m_all ht hA0 hst hok (lo := 0) (G := fun v => decide (v < L)) (K_in_L (by omega))) (fun τ902 f9 q9 => ?_)
  obtain ⟨g902, A902, m0, m_all, hst⟩ := q9
  have m_read := frm.cell f9 m_read (by omega)
  have m_has := frm.cell f9 m_has (by omega)
  have fr := fr.step f9 (by omega) (by omega)
  obtain ⟨s2, hs2⟩ : ∃ q, q = nst U n ((fun v => decide (v < L)) (tV U n (Re s1))) s1 := ⟨_, rfl⟩
  obtain ⟨ab2, hab2⟩ : ∃ q, q = rab U n (fun v => decide (v < L)) true s1 := ⟨_, rfl⟩
  obtain ⟨v2, hv2⟩ : ∃ q, q = rvl U n 0 (fun v => decide (v < L)) s1 := ⟨_, rfl⟩
  rw [← hs2, ← hab2] at hst
  rw [← hv2]
  have hok : Rok U n s2 := by
    rw [hs2]
    exact nst_ok ht hok
  have hr2 : v2 ≤ L := by rw [hv2]; exact rvl_L
  refine Ev.istore_n rfl rfl rfl ?_
  refine Ev.aload_n rfl rfl ?_
  refine Ev.iconst (v := 0) rfl (by decide) ?_
  refine Ev.bipush (v := 100) rfl (by decide) ?_
  refine Ev.xV2 rfl rfl m0 rfl rfl (by decide) ⟨(Nat.le_refl _), (Nat.le_refl _)⟩ (m_numb_ok m0 m_all ht hA0 hst hok (lo := 0) (G := fun v => decide (0 ≤ v) && decide (v ≤ 100)) (K_in_G ⟨by decide, by decide⟩)) (fun τ903 f9 q9 => ?_)
  obtain ⟨g903, A903, m0, m_all, hst⟩ := q9
  have m_read := frm.cell f9 m_read (by omega)
  have m_has := frm.cell f9 m_has (by omega)
  have fr := fr.step f9 (by omega) (by omega)
  obtain ⟨s3, hs3⟩ : ∃ q, q = nst U n ((fun v => decide (0 ≤ v) && decide (v ≤ 100)) (tV U n (Re s2))) s2 := ⟨_, rfl⟩
  obtain ⟨ab3, hab3⟩ : ∃ q, q = rab U n (fun v => decide (0 ≤ v) && decide (v ≤ 100)) ab2 s2 := ⟨_, rfl⟩
  obtain ⟨v3, hv3⟩ : ∃ q, q = rvl U n 0 (fun v => decide (0 ≤ v) && decide (v ≤ 100)) s2 := ⟨_, rfl⟩
  rw [← hs3, ← hab3] at hst
  rw [← hv3]
  have hok : Rok U n s3 := by
    rw [hs3]
    exact nst_ok ht hok
  have hr3 := rvl_le (U := U) (n := n) (lo := 0) (hi := 100) (s := s2) (by decide)
  rw [← hv3] at hr3
  refine Ev.istore rfl rfl rfl ?_
  refine Ev.aload_n rfl rfl ?_
  refine Ev.getf rfl rfl m0 rfl ?_
  rw [hst.2.2.2.2.2.2]
  refine Ev.zeq (tgt := 91) rfl (by decide) (fun c64 => ?_) (fun c64 => ?_)
  · skip
    refine Ev.iload_n rfl rfl ?_
    refine Ev.iconst (v := 4) rfl (by decide) ?_
    refine Ev.jne (tgt := 101) rfl (by decide) (fun c93 => ?_) (fun c93 => absurd c93 (by decide))
    refine Ev.iload_n rfl rfl ?_
    refine Ev.iconst (v := 5) rfl (by decide) ?_
    refine Ev.jeq (tgt := 112) rfl (by decide) (fun c103 => absurd c103 (by decide)) (fun c103 => ?_)
    refine Ev.iload_n rfl rfl ?_
    refine Ev.bipush (v := 6) rfl (by decide) ?_
    refine Ev.jne (tgt := 126) rfl (by decide) (fun c109 => ?_) (fun c109 => absurd c109 (by decide))
    refine Ev.iload_n rfl rfl ?_
    refine Ev.bipush (v := 7) rfl (by decide) ?_
    refine Ev.jne (tgt := 158) rfl (by decide) (fun c129 => ?_) (fun c129 => absurd c129 (by decide))
    refine Ev.iload_n rfl rfl ?_
    refine Ev.bipush (v := 8) rfl (by decide) ?_
    refine Ev.jne (tgt := 195) rfl (by decide) (fun c161 => ?_) (fun c161 => absurd c161 (by decide))
    refine Ev.iload_n rfl rfl ?_
    refine Ev.bipush (v := 9) rfl (by decide) ?_
    refine Ev.jne (tgt := 215) rfl (by decide) (fun c198 => ?_) (fun c198 => absurd c198 (by decide))
    refine Ev.iload_n rfl rfl ?_
    refine Ev.bipush (v := 10) rfl (by decide) ?_
    refine Ev.jne (tgt := 236) rfl (by decide) (fun c218 => ?_) (fun c218 => absurd c218 (by decide))
    refine Ev.iload_n rfl rfl ?_
    refine Ev.bipush (v := 11) rfl (by decide) ?_
    refine Ev.jne (tgt := 257) rfl (by decide) (fun c239 => ?_) (fun c239 => absurd c239 (by decide))
    refine Ev.iload_n rfl rfl ?_
    refine Ev.bipush (v := 12) rfl (by decide) ?_
    refine Ev.jne (tgt := 277) rfl (by decide) (fun c260 => ?_) (fun c260 => absurd c260 (by decide))
    refine Ev.iload_n rfl rfl ?_
    refine Ev.bipush (v := 13) rfl (by decide) ?_
    refine Ev.jne (tgt := 297) rfl (by decide) (fun c280 => ?_) (fun c280 => absurd c280 (by decide))
    refine Ev.iload_n rfl rfl ?_
    refine Ev.bipush (v := 14) rfl (by decide) ?_
    refine Ev.jne (tgt := 317) rfl (by decide) (fun c300 => ?_) (fun c300 => absurd c300 (by decide))
    refine Ev.iload_n rfl rfl ?_
    refine Ev.bipush (v := 15) rfl (by decide) ?_
    refine Ev.jne (tgt := 338) rfl (by decide) (fun c320 => ?_) (fun c320 => absurd c320 (by decide))
    refine Ev.aload_n rfl rfl ?_
    refine Ev.xV0u rfl rfl m0 rfl rfl (by decide) ⟨(Nat.le_refl _), (Nat.le_refl _)⟩ (m_endsL_ok m0 m_all ht hA0 hst hok) (fun τ904 f9 q9 => ?_)
    obtain ⟨g904, A904, m0, m_all, hst⟩ := q9
    have m_read := frm.cell f9 m_read (by omega)
    have m_has := frm.cell f9 m_has (by omega)
    have fr := fr.step f9 (by omega) (by omega)
    refine Ev.ret rfl rfl (Nat.le_refl _) (Nat.le_refl _) ?_
    have e1 : chn U n 2 S.1 s1 1 = s2 := by
      rw [hs2]
      refine nst_eq rfl (fun _ _ f => ?_)
      show decide (tV U n (Re s1) < S.1) = decide (tV U n (Re s1) < L)
      rw [hLS (hf1.symm.trans f)]
    have hls : lstS 2 S s1 (tS0 U n (Re s)) = s1 := by
      unfold lstS
      exact if_neg (by omega)
    have hX : lnX U n 2 S s = s3 := by
      unfold lnX lnS lw1
      rw [← hs1, hls]
      show chn U n 2 S.1 s1 2 = s3
      show nst U n (gds 2 1 (tV U n (Re s1)) S.1 (tV U n (Re (chn U n 2 S.1 s1 1)))) (chn U n 2 S.1 s1 1) = s3
      rw [e1, hs3]
      rfl
    have hN : lnN U n 2 S s = nus U n 2 S.1 s1 := by
      unfold lnN lnS lw1
      rw [← hs1, hls]
    rw [← hQ, hX, hN]
    refine ⟨rfl, fr, _, _, _, _, m0, m_all, m_read, m_has, hst, ?_, ?_⟩
    · exact hSF.mono (Nat.le_succ b)
    · intro hw9 hf9
      have hw8 := hw9
      rw [hs3] at hw9 hf9
      obtain ⟨w3, k3, f3, g3, -⟩ := nst_f0 hw9 hf9
      have q3 := f3
      have r3 := w3
      rw [hs2] at q3 r3
      obtain ⟨w2, k2, f2, g2, -⟩ := nst_f0 r3 q3
      have hm := hrd (hf1.symm.trans f2)
      have hLs := hLS (hf1.symm.trans f2)
      have l1 : tV U n (Re s1) < L := of_decide_eq_true g2
      have u2 : v2 = tV U n (Re s1) := by rw [hv2, rvl_ok w2 k2 g2]
      have u3 : v3 = tV U n (Re s2) := by rw [hv3, rvl_ok w3 k3 g3]
      have hb9 := b00 c64
      rw [hab3, rab_ok w3 k3 g3, hab2, rab_ok w2 k2 g2] at hb9
      cases hb9
  · skip
    refine Ev.aload_n rfl rfl ?_
    refine Ev.getf rfl rfl m0 rfl ?_
    rw [hst.2.2.2.2.2.1]
    refine Ev.zne (tgt := 91) rfl (by decide) (fun c71 => ?_) (fun c71 => ?_)
    · skip
      refine Ev.iload_n rfl rfl ?_
      refine Ev.iconst (v := 4) rfl (by decide) ?_
      refine Ev.jne (tgt := 101) rfl (by decide) (fun c93 => ?_) (fun c93 => absurd c93 (by decide))
      refine Ev.iload_n rfl rfl ?_
      refine Ev.iconst (v := 5) rfl (by decide) ?_
      refine Ev.jeq (tgt := 112) rfl (by decide) (fun c103 => absurd c103 (by decide)) (fun c103 => ?_)
      refine Ev.iload_n rfl rfl ?_
      refine Ev.bipush (v := 6) rfl (by decide) ?_
      refine Ev.jne (tgt := 126) rfl (by decide) (fun c109 => ?_) (fun c109 => absurd c109 (by decide))
      refine Ev.iload_n rfl rfl ?_
      refine Ev.bipush (v := 7) rfl (by decide) ?_
      refine Ev.jne (tgt := 158) rfl (by decide) (fun c129 => ?_) (fun c129 => absurd c129 (by decide))
      refine Ev.iload_n rfl rfl ?_
      refine Ev.bipush (v := 8) rfl (by decide) ?_
      refine Ev.jne (tgt := 195) rfl (by decide) (fun c161 => ?_) (fun c161 => absurd c161 (by decide))
      refine Ev.iload_n rfl rfl ?_
      refine Ev.bipush (v := 9) rfl (by decide) ?_
      refine Ev.jne (tgt := 215) rfl (by decide) (fun c198 => ?_) (fun c198 => absurd c198 (by decide))
      refine Ev.iload_n rfl rfl ?_
      refine Ev.bipush (v := 10) rfl (by decide) ?_
      refine Ev.jne (tgt := 236) rfl (by decide) (fun c218 => ?_) (fun c218 => absurd c218 (by decide))
      refine Ev.iload_n rfl rfl ?_
      refine Ev.bipush (v := 11) rfl (by decide) ?_
      refine Ev.jne (tgt := 257) rfl (by decide) (fun c239 => ?_) (fun c239 => absurd c239 (by decide))
      refine Ev.iload_n rfl rfl ?_
      refine Ev.bipush (v := 12) rfl (by decide) ?_
      refine Ev.jne (tgt := 277) rfl (by decide) (fun c260 => ?_) (fun c260 => absurd c260 (by decide))
      refine Ev.iload_n rfl rfl ?_
      refine Ev.bipush (v := 13) rfl (by decide) ?_
      refine Ev.jne (tgt := 297) rfl (by decide) (fun c280 => ?_) (fun c280 => absurd c280 (by decide))
      refine Ev.iload_n rfl rfl ?_
      refine Ev.bipush (v := 14) rfl (by decide) ?_
      refine Ev.jne (tgt := 317) rfl (by decide) (fun c300 => ?_) (fun c300 => absurd c300 (by decide))
      refine Ev.iload_n rfl rfl ?_
      refine Ev.bipush (v := 15) rfl (by decide) ?_
      refine Ev.jne (tgt := 338) rfl (by decide) (fun c320 => ?_) (fun c320 => absurd c320 (by decide))
      refine Ev.aload_n rfl rfl ?_
      refine Ev.xV0u rfl rfl m0 rfl rfl (by decide) ⟨(Nat.le_refl _), (Nat.le_refl _)⟩ (m_endsL_ok m0 m_all ht hA0 hst hok) (fun τ904 f9 q9 => ?_)
      obtain ⟨g904, A904, m0, m_all, hst⟩ := q9
      have m_read := frm.cell f9 m_read (by omega)
      have m_has := frm.cell f9 m_has (by omega)
      have fr := fr.step f9 (by omega) (by omega)
      refine Ev.ret rfl rfl (Nat.le_refl _) (Nat.le_refl _) ?_
      have e1 : chn U n 2 S.1 s1 1 = s2 := by
        rw [hs2]
        refine nst_eq rfl (fun _ _ f => ?_)
        show decide (tV U n (Re s1) < S.1) = decide (tV U n (Re s1) < L)
        rw [hLS (hf1.symm.trans f)]
      have hls : lstS 2 S s1 (tS0 U n (Re s)) = s1 := by
        unfold lstS
        exact if_neg (by omega)
      have hX : lnX U n 2 S s = s3 := by
        unfold lnX lnS lw1
        rw [← hs1, hls]
        show chn U n 2 S.1 s1 2 = s3
        show nst U n (gds 2 1 (tV U n (Re s1)) S.1 (tV U n (Re (chn U n 2 S.1 s1 1)))) (chn U n 2 S.1 s1 1) = s3
        rw [e1, hs3]
        rfl
      have hN : lnN U n 2 S s = nus U n 2 S.1 s1 := by
        unfold lnN lnS lw1
        rw [← hs1, hls]
      rw [← hQ, hX, hN]
      refine ⟨rfl, fr, _, _, _, _, m0, m_all, m_read, m_has, hst, ?_, ?_⟩
      · exact hSF.mono (Nat.le_succ b)
      · intro hw9 hf9
        have hw8 := hw9
        rw [hs3] at hw9 hf9
        obtain ⟨w3, k3, f3, g3, -⟩ := nst_f0 hw9 hf9
        have q3 := f3
        have r3 := w3
        rw [hs2] at q3 r3
        obtain ⟨w2, k2, f2, g2, -⟩ := nst_f0 r3 q3
        have hm := hrd (hf1.symm.trans f2)
        have hLs := hLS (hf1.symm.trans f2)
        have l1 : tV U n (Re s1) < L := of_decide_eq_true g2
        have u2 : v2 = tV U n (Re s1) := by rw [hv2, rvl_ok w2 k2 g2]
        have u3 : v3 = tV U n (Re s2) := by rw [hv3, rvl_ok w3 k3 g3]
        have hb9 := b01 c71
        rw [hw8] at hb9
        cases hb9
    · skip
      refine Ev.iload_n rfl rfl ?_
      refine Ev.bipush (v := 16) rfl (by decide) ?_
      refine Ev.jge (tgt := 91) rfl (by decide) (fun c77 => ?_) (fun c77 => ?_)
      · skip
        refine Ev.iload_n rfl rfl ?_
        refine Ev.iconst (v := 4) rfl (by decide) ?_
        refine Ev.jne (tgt := 101) rfl (by decide) (fun c93 => ?_) (fun c93 => absurd c93 (by decide))
        refine Ev.iload_n rfl rfl ?_
        refine Ev.iconst (v := 5) rfl (by decide) ?_
        refine Ev.jeq (tgt := 112) rfl (by decide) (fun c103 => absurd c103 (by decide)) (fun c103 => ?_)
        refine Ev.iload_n rfl rfl ?_
        refine Ev.bipush (v := 6) rfl (by decide) ?_
        refine Ev.jne (tgt := 126) rfl (by decide) (fun c109 => ?_) (fun c109 => absurd c109 (by decide))
        refine Ev.iload_n rfl rfl ?_
        refine Ev.bipush (v := 7) rfl (by decide) ?_
        refine Ev.jne (tgt := 158) rfl (by decide) (fun c129 => ?_) (fun c129 => absurd c129 (by decide))
        refine Ev.iload_n rfl rfl ?_
        refine Ev.bipush (v := 8) rfl (by decide) ?_
        refine Ev.jne (tgt := 195) rfl (by decide) (fun c161 => ?_) (fun c161 => absurd c161 (by decide))
        refine Ev.iload_n rfl rfl ?_
        refine Ev.bipush (v := 9) rfl (by decide) ?_
        refine Ev.jne (tgt := 215) rfl (by decide) (fun c198 => ?_) (fun c198 => absurd c198 (by decide))
        refine Ev.iload_n rfl rfl ?_
        refine Ev.bipush (v := 10) rfl (by decide) ?_
        refine Ev.jne (tgt := 236) rfl (by decide) (fun c218 => ?_) (fun c218 => absurd c218 (by decide))
        refine Ev.iload_n rfl rfl ?_
        refine Ev.bipush (v := 11) rfl (by decide) ?_
        refine Ev.jne (tgt := 257) rfl (by decide) (fun c239 => ?_) (fun c239 => absurd c239 (by decide))
        refine Ev.iload_n rfl rfl ?_
        refine Ev.bipush (v := 12) rfl (by decide) ?_
        refine Ev.jne (tgt := 277) rfl (by decide) (fun c260 => ?_) (fun c260 => absurd c260 (by decide))
        refine Ev.iload_n rfl rfl ?_
        refine Ev.bipush (v := 13) rfl (by decide) ?_
        refine Ev.jne (tgt := 297) rfl (by decide) (fun c280 => ?_) (fun c280 => absurd c280 (by decide))
        refine Ev.iload_n rfl rfl ?_
        refine Ev.bipush (v := 14) rfl (by decide) ?_
        refine Ev.jne (tgt := 317) rfl (by decide) (fun c300 => ?_) (fun c300 => absurd c300 (by decide))
        refine Ev.iload_n rfl rfl ?_
        refine Ev.bipush (v := 15) rfl (by decide) ?_
        refine Ev.jne (tgt := 338) rfl (by decide) (fun c320 => ?_) (fun c320 => absurd c320 (by decide))
        refine Ev.aload_n rfl rfl ?_
        refine Ev.xV0u rfl rfl m0 rfl rfl (by decide) ⟨(Nat.le_refl _), (Nat.le_refl _)⟩ (m_endsL_ok m0 m_all ht hA0 hst hok) (fun τ904 f9 q9 => ?_)
        obtain ⟨g904, A904, m0, m_all, hst⟩ := q9
        have m_read := frm.cell f9 m_read (by omega)
        have m_has := frm.cell f9 m_has (by omega)
        have fr := fr.step f9 (by omega) (by omega)
        refine Ev.ret rfl rfl (Nat.le_refl _) (Nat.le_refl _) ?_
        have e1 : chn U n 2 S.1 s1 1 = s2 := by
          rw [hs2]
          refine nst_eq rfl (fun _ _ f => ?_)
          show decide (tV U n (Re s1) < S.1) = decide (tV U n (Re s1) < L)
          rw [hLS (hf1.symm.trans f)]
        have hls : lstS 2 S s1 (tS0 U n (Re s)) = s1 := by
          unfold lstS
          exact if_neg (by omega)
        have hX : lnX U n 2 S s = s3 := by
          unfold lnX lnS lw1
          rw [← hs1, hls]
          show chn U n 2 S.1 s1 2 = s3
          show nst U n (gds 2 1 (tV U n (Re s1)) S.1 (tV U n (Re (chn U n 2 S.1 s1 1)))) (chn U n 2 S.1 s1 1) = s3
          rw [e1, hs3]
          rfl
        have hN : lnN U n 2 S s = nus U n 2 S.1 s1 := by
          unfold lnN lnS lw1
          rw [← hs1, hls]
        rw [← hQ, hX, hN]
        refine ⟨rfl, fr, _, _, _, _, m0, m_all, m_read, m_has, hst, ?_, ?_⟩
        · exact hSF.mono (Nat.le_succ b)
        · intro hw9 hf9
          have hw8 := hw9
          rw [hs3] at hw9 hf9
          obtain ⟨w3, k3, f3, g3, -⟩ := nst_f0 hw9 hf9
          have q3 := f3
          have r3 := w3
          rw [hs2] at q3 r3
          obtain ⟨w2, k2, f2, g2, -⟩ := nst_f0 r3 q3
          have hm := hrd (hf1.symm.trans f2)
          have hLs := hLS (hf1.symm.trans f2)
          have l1 : tV U n (Re s1) < L := of_decide_eq_true g2
          have u2 : v2 = tV U n (Re s1) := by rw [hv2, rvl_ok w2 k2 g2]
          have u3 : v3 = tV U n (Re s2) := by rw [hv3, rvl_ok w3 k3 g3]
          exact absurd (nI_lt (b := 16) (by omega) (by decide)) c77
      · skip
        have h16 : v2 < 16 := (nI_ltI (a := v2) (b := 16) (by omega) (by decide)).mp c77
        refine Ev.aload_n rfl rfl ?_
        refine Ev.getf rfl rfl m0 rfl ?_
        refine Ev.bipush (v := 77) rfl (by decide) ?_
        refine Ev.iload_n rfl rfl ?_
        refine Ev.iadd rfl ?_
        refine Ev.iload rfl rfl ?_
        refine Ev.iastE (k := 77 + v2) rfl m_read (nq_add (a := 77) (b := v2) (rfl : (77 : Int32) = nI 77) rfl) ⟨(by omega), by decide⟩ (fun τ1 f1 m_read => ?_)
        have m0 := frm.cell f1 m0 (by omega)
        have m_all := frm.cell f1 m_all (by omega)
        have m_has := frm.cell f1 m_has (by omega)
        have fr := fr.step f1 (by omega) (by omega)
        refine Ev.iload_n rfl rfl ?_
        refine Ev.iconst (v := 4) rfl (by decide) ?_
        refine Ev.jne (tgt := 101) rfl (by decide) (fun c93 => ?_) (fun c93 => absurd c93 (by decide))
        refine Ev.iload_n rfl rfl ?_
        refine Ev.iconst (v := 5) rfl (by decide) ?_
        refine Ev.jeq (tgt := 112) rfl (by decide) (fun c103 => absurd c103 (by decide)) (fun c103 => ?_)
        refine Ev.iload_n rfl rfl ?_
        refine Ev.bipush (v := 6) rfl (by decide) ?_
        refine Ev.jne (tgt := 126) rfl (by decide) (fun c109 => ?_) (fun c109 => absurd c109 (by decide))
        refine Ev.iload_n rfl rfl ?_
        refine Ev.bipush (v := 7) rfl (by decide) ?_
        refine Ev.jne (tgt := 158) rfl (by decide) (fun c129 => ?_) (fun c129 => absurd c129 (by decide))
        refine Ev.iload_n rfl rfl ?_
        refine Ev.bipush (v := 8) rfl (by decide) ?_
        refine Ev.jne (tgt := 195) rfl (by decide) (fun c161 => ?_) (fun c161 => absurd c161 (by decide))
        refine Ev.iload_n rfl rfl ?_
        refine Ev.bipush (v := 9) rfl (by decide) ?_
        refine Ev.jne (tgt := 215) rfl (by decide) (fun c198 => ?_) (fun c198 => absurd c198 (by decide))
        refine Ev.iload_n rfl rfl ?_
        refine Ev.bipush (v := 10) rfl (by decide) ?_
        refine Ev.jne (tgt := 236) rfl (by decide) (fun c218 => ?_) (fun c218 => absurd c218 (by decide))
        refine Ev.iload_n rfl rfl ?_
        refine Ev.bipush (v := 11) rfl (by decide) ?_
        refine Ev.jne (tgt := 257) rfl (by decide) (fun c239 => ?_) (fun c239 => absurd c239 (by decide))
        refine Ev.iload_n rfl rfl ?_
        refine Ev.bipush (v := 12) rfl (by decide) ?_
        refine Ev.jne (tgt := 277) rfl (by decide) (fun c260 => ?_) (fun c260 => absurd c260 (by decide))
        refine Ev.iload_n rfl rfl ?_
        refine Ev.bipush (v := 13) rfl (by decide) ?_
        refine Ev.jne (tgt := 297) rfl (by decide) (fun c280 => ?_) (fun c280 => absurd c280 (by decide))
        refine Ev.iload_n rfl rfl ?_
        refine Ev.bipush (v := 14) rfl (by decide) ?_
        refine Ev.jne (tgt := 317) rfl (by decide) (fun c300 => ?_) (fun c300 => absurd c300 (by decide))
        refine Ev.iload_n rfl rfl ?_
        refine Ev.bipush (v := 15) rfl (by decide) ?_
        refine Ev.jne (tgt := 338) rfl (by decide) (fun c320 => ?_) (fun c320 => absurd c320 (by decide))
        refine Ev.aload_n rfl rfl ?_
        refine Ev.xV0u rfl rfl m0 rfl rfl (by decide) ⟨(Nat.le_refl _), (Nat.le_refl _)⟩ (m_endsL_ok m0 m_all ht hA0 hst hok) (fun τ904 f9 q9 => ?_)
        obtain ⟨g904, A904, m0, m_all, hst⟩ := q9
        have m_read := frm.cell f9 m_read (by omega)
        have m_has := frm.cell f9 m_has (by omega)
        have fr := fr.step f9 (by omega) (by omega)
        refine Ev.ret rfl rfl (Nat.le_refl _) (Nat.le_refl _) ?_
        have e1 : chn U n 2 S.1 s1 1 = s2 := by
          rw [hs2]
          refine nst_eq rfl (fun _ _ f => ?_)
          show decide (tV U n (Re s1) < S.1) = decide (tV U n (Re s1) < L)
          rw [hLS (hf1.symm.trans f)]
        have hls : lstS 2 S s1 (tS0 U n (Re s)) = s1 := by
          unfold lstS
          exact if_neg (by omega)
        have hX : lnX U n 2 S s = s3 := by
          unfold lnX lnS lw1
          rw [← hs1, hls]
          show chn U n 2 S.1 s1 2 = s3
          show nst U n (gds 2 1 (tV U n (Re s1)) S.1 (tV U n (Re (chn U n 2 S.1 s1 1)))) (chn U n 2 S.1 s1 1) = s3
          rw [e1, hs3]
          rfl
        have hN : lnN U n 2 S s = nus U n 2 S.1 s1 := by
          unfold lnN lnS lw1
          rw [← hs1, hls]
        rw [← hQ, hX, hN]
        refine ⟨rfl, fr, _, _, _, _, m0, m_all, m_read, m_has, hst, ?_, ?_⟩
        · exact (hSF.mono (Nat.le_succ b)).put (by omega)
        · intro hw9 hf9
          have hw8 := hw9
          rw [hs3] at hw9 hf9
          obtain ⟨w3, k3, f3, g3, -⟩ := nst_f0 hw9 hf9
          have q3 := f3
          have r3 := w3
          rw [hs2] at q3 r3
          obtain ⟨w2, k2, f2, g2, -⟩ := nst_f0 r3 q3
          have hm := hrd (hf1.symm.trans f2)
          have hLs := hLS (hf1.symm.trans f2)
          have l1 : tV U n (Re s1) < L := of_decide_eq_true g2
          have u2 : v2 = tV U n (Re s1) := by rw [hv2, rvl_ok w2 k2 g2]
          have u3 : v3 = tV U n (Re s2) := by rw [hv3, rvl_ok w3 k3 g3]
          have n0 : nus U n 2 S.1 s1 0 = v2 := u2.symm
          have n1 : nus U n 2 S.1 s1 1 = v3 := by unfold nus; rw [e1, u3]
          show mS _ 0 (S_ar S 4 (upd (S.2.2 4) (nus U n 2 S.1 s1 0) (nI (nus U n 2 S.1 s1 1))))
          rw [n0, n1]
          exact mS_2 hm hn16 hn5 (by omega)
theorem m_schL3_ok (m0 : σ.2 y = some (.inr (.inr (10, mo y g)))) (m_all : σ.2 (y + 1) = some (.inl (0, 4500, A))) {rd : Nat → Int32} (m_read : σ.2 (y + 3) = some (.inl (0, 120, rd))) (ht : txt U n) (hA0 : ∀ p, p < n → A0 (10 + p) = nI (U p)) (hst : MSt0 U n A0 A g s) (hok : Rok U n s) (hw : Rw s = false) (hk : tK U n (Re s) = 3) (hW : tW U n (Re s) = 4) (hwS : wS S) {b : Nat} (hb : b ≤ 600) (hSF : SF b rd) (hrd : Rf s = 0 → mS rd 0 S) : RetX Γ m_M_schoolLine [.ref y] σ y (y + 4) none (fun τ => ∃ (g1 A1 rd1 : Nat → Int32) (ab1 : Bool), τ.2 y = some (.inr (.inr (10, mo y g1))) ∧ τ.2 (y + 1) = some (.inl (0, 4500, A1)) ∧ τ.2 (y + 3) = some (.inl (0, 120, rd1)) ∧ τ.2 (y + 2) = σ.2 (y + 2) ∧ MSt U n A0 A1 g1 (rel U n (lnX U n 3 S s)) ab1 ∧ SF (b + 1) rd1 ∧ (Rw (lnX U n 3 S s) = false → Rf (lnX U n 3 S s) = 0 → mS rd1 0 (LnF 3 (lnN U n 3 S s) S))) := by
  have hn6 := ht.1
  have hn16 := hwS.1
  have hn5 := hwS.2.1
  have h600 := tS0_le ht hok.1
  obtain ⟨⟨L, hL, hLb⟩, ⟨tc, htc, htb⟩, hpt, ⟨ls, hls, hls1, hls2⟩⟩ := id hSF
  have hLS : Rf s = 0 → L = S.1 := fun f => nI_injL (by omega) (by omega) (hL.symm.trans (hrd f).1)
  unfold RetX
  generalize hQ : ((fun (r0 : Option Value) (τ : ex_S) => r0 = none ∧ frm σ τ y (y + 4) ∧ (fun τ : ex_S => ∃ (g1 A1 rd1 : Nat → Int32) (ab1 : Bool), τ.2 y = some (.inr (.inr (10, mo y g1))) ∧ τ.2 (y + 1) = some (.inl (0, 4500, A1)) ∧ τ.2 (y + 3) = some (.inl (0, 120, rd1)) ∧ τ.2 (y + 2) = σ.2 (y + 2) ∧ MSt U n A0 A1 g1 (rel U n (lnX U n 3 S s)) ab1 ∧ SF (b + 1) rd1 ∧ (Rw (lnX U n 3 S s) = false → Rf (lnX U n 3 S s) = 0 → mS rd1 0 (LnF 3 (lnN U n 3 S s) S))) τ)) = Q
  refine Ret.start pm_182 rfl ?_
  have fr : frm σ σ y (y + 4) := frm.rf
  have m_has : σ.2 (y + 2) = σ.2 (y + 2) := rfl
  refine Ev.aload_n rfl rfl ?_
  refine Ev.getf rfl rfl m0 rfl ?_
  rw [hst.2.2.2.1.2.1]
  refine Ev.istore_n rfl rfl rfl ?_
  refine Ev.aload_n rfl rfl ?_
  refine Ev.iconst (v := 1) rfl (by decide) ?_
  refine Ev.bipush (v := 15) rfl (by decide) ?_
  refine Ev.xV2 rfl rfl m0 rfl rfl (by decide) ⟨(Nat.le_refl _), (Nat.le_refl _)⟩ (m_takes0_y (fi := 1) (la := 15) m0 m_all ht hA0 hst hok hw (by decide) ⟨hk, by rw [hW]; decide, by rw [hW]; decide⟩) (fun τ901 f9 q9 => ?_)
  obtain ⟨g901, A901, m0, m_all, hst⟩ := q9
  have m_read := frm.cell f9 m_read (by omega)
  have m_has := frm.cell f9 m_has (by omega)
  have fr := fr.step f9 (by omega) (by omega)
  rw [show nI (tW U n (Re s)) = (4 : Int32) from by rw [hW]; rfl]
  obtain ⟨s1, hs1⟩ : ∃ q : Rs, q = (false, tE U n (Re s), Rf s, Rp s) := ⟨_, rfl⟩
  rw [← hs1] at hst
  have hw1 : Rw s1 = false := by rw [hs1]; rfl
  have he1 : Re s1 = tE U n (Re s) := by rw [hs1]; rfl
  have hf1 : Rf s1 = Rf s := by rw [hs1]; rfl
  have hp1 : Rp s1 = Rp s := by rw [hs1]; rfl
  have hok0 := hok
  have hok : Rok U n s1 := by rw [hs1]; exact lw1_ok ht hok (by omega) hw
  have ha0 : tS0 U n (Re s) < tS0 U n (Re s1) := by rw [he1]; exact tE_st ht hok0.1 (by omega)
  have hpa : Rw s1 = false → ¬ Rf s1 = 0 → ∃ q, Rp s1 = nI q ∧ q < tS0 U n (Re s) := fun _ c => by
    rw [hp1]
    exact hok0.2.2 hw (by rw [← hf1]; exact c)
  refine Ev.istore_n rfl rfl rfl ?_
  refine Ev.iload_n rfl rfl ?_
  refine Ev.iconst (v := 1) rfl (by decide) ?_
  refine Ev.jne (tgt := 23) rfl (by decide) (fun c15 => ?_) (fun c15 => absurd c15 (by decide))
  refine Ev.iload_n rfl rfl ?_
  refine Ev.iconst (v := 2) rfl (by decide) ?_
  refine Ev.jne (tgt := 32) rfl (by decide) (fun c25 => ?_) (fun c25 => absurd c25 (by decide))
  refine Ev.iload_n rfl rfl ?_
  refine Ev.iconst (v := 3) rfl (by decide) ?_
  refine Ev.jne (tgt := 91) rfl (by decide) (fun c34 => ?_) (fun c34 => absurd c34 (by decide))
  refine Ev.iload_n rfl rfl ?_
  refine Ev.iconst (v := 4) rfl (by decide) ?_
  refine Ev.jne (tgt := 101) rfl (by decide) (fun c93 => absurd (by decide) c93) (fun c93 => ?_)
  refine Ev.aload_n rfl rfl ?_
  refine Ev.iload_n rfl rfl ?_
  refine Ev.xV1u rfl rfl m0 rfl rfl (by decide) ⟨(Nat.le_refl _), (Nat.le_refl _)⟩ (m_tchL_ok m0 m_all m_read ht hA0 hst hok hwS hb hSF (fun f => hrd (hf1.symm.trans f)) ha0 hpa) (fun τ880 f9 q9 => ?_)
  obtain ⟨g880, A880, rd880, ab880, m0, m_all, m_read, q_has, hst, q_SF, q_mS⟩ := q9
  have m_has := q_has.trans m_has
  have fr := fr.step f9 (by omega) (by omega)
  obtain ⟨s9, hs9⟩ : ∃ q, q = chn U n 3 S.1 (lstS 3 S s1 (tS0 U n (Re s))) 2 := ⟨_, rfl⟩
  rw [← hs9] at hst q_mS
  have hok : Rok U n s9 := by
    rw [hs9]
    exact chn_ok ht (lstS_ok hok ha0) _
  refine Ev.iload_n rfl rfl ?_
  refine Ev.iconst (v := 5) rfl (by decide) ?_
  refine Ev.jeq (tgt := 112) rfl (by decide) (fun c103 => absurd c103 (by decide)) (fun c103 => ?_)
  refine Ev.iload_n rfl rfl ?_
  refine Ev.bipush (v := 6) rfl (by decide) ?_
  refine Ev.jne (tgt := 126) rfl (by decide) (fun c109 => ?_) (fun c109 => absurd c109 (by decide))
  refine Ev.iload_n rfl rfl ?_
  refine Ev.bipush (v := 7) rfl (by decide) ?_
  refine Ev.jne (tgt := 158) rfl (by decide) (fun c129 => ?_) (fun c129 => absurd c129 (by decide))
  refine Ev.iload_n rfl rfl ?_
  refine Ev.bipush (v := 8) rfl (by decide) ?_
  refine Ev.jne (tgt := 195) rfl (by decide) (fun c161 => ?_) (fun c161 => absurd c161 (by decide))
  refine Ev.iload_n rfl rfl ?_
  refine Ev.bipush (v := 9) rfl (by decide) ?_
  refine Ev.jne (tgt := 215) rfl (by decide) (fun c198 => ?_) (fun c198 => absurd c198 (by decide))
  refine Ev.iload_n rfl rfl ?_
  refine Ev.bipush (v := 10) rfl (by decide) ?_
  refine Ev.jne (tgt := 236) rfl (by decide) (fun c218 => ?_) (fun c218 => absurd c218 (by decide))
  refine Ev.iload_n rfl rfl ?_
  refine Ev.bipush (v := 11) rfl (by decide) ?_
  refine Ev.jne (tgt := 257) rfl (by decide) (fun c239 => ?_) (fun c239 => absurd c239 (by decide))
  refine Ev.iload_n rfl rfl ?_
  refine Ev.bipush (v := 12) rfl (by decide) ?_
  refine Ev.jne (tgt := 277) rfl (by decide) (fun c260 => ?_) (fun c260 => absurd c260 (by decide))
  refine Ev.iload_n rfl rfl ?_
  refine Ev.bipush (v := 13) rfl (by decide) ?_
  refine Ev.jne (tgt := 297) rfl (by decide) (fun c280 => ?_) (fun c280 => absurd c280 (by decide))
  refine Ev.iload_n rfl rfl ?_
  refine Ev.bipush (v := 14) rfl (by decide) ?_
  refine Ev.jne (tgt := 317) rfl (by decide) (fun c300 => ?_) (fun c300 => absurd c300 (by decide))
  refine Ev.iload_n rfl rfl ?_
  refine Ev.bipush (v := 15) rfl (by decide) ?_
  refine Ev.jne (tgt := 338) rfl (by decide) (fun c320 => ?_) (fun c320 => absurd c320 (by decide))
  refine Ev.aload_n rfl rfl ?_
  refine Ev.xV0u rfl rfl m0 rfl rfl (by decide) ⟨(Nat.le_refl _), (Nat.le_refl _)⟩ (m_endsL_ok m0 m_all ht hA0 hst hok) (fun τ902 f9 q9 => ?_)
  obtain ⟨g902, A902, m0, m_all, hst⟩ := q9
  have m_read := frm.cell f9 m_read (by omega)
  have m_has := frm.cell f9 m_has (by omega)
  have fr := fr.step f9 (by omega) (by omega)
  refine Ev.ret rfl rfl (Nat.le_refl _) (Nat.le_refl _) ?_
  subst hs1
  subst hs9
  rw [← hQ]
  exact ⟨rfl, fr, _, _, _, _, m0, m_all, m_read, m_has, hst, q_SF, q_mS⟩
theorem m_schL4_ok (m0 : σ.2 y = some (.inr (.inr (10, mo y g)))) (m_all : σ.2 (y + 1) = some (.inl (0, 4500, A))) {rd : Nat → Int32} (m_read : σ.2 (y + 3) = some (.inl (0, 120, rd))) (ht : txt U n) (hA0 : ∀ p, p < n → A0 (10 + p) = nI (U p)) (hst : MSt0 U n A0 A g s) (hok : Rok U n s) (hw : Rw s = false) (hk : tK U n (Re s) = 3) (hW : tW U n (Re s) = 5) (hwS : wS S) {b : Nat} (hb : b ≤ 600) (hSF : SF b rd) (hrd : Rf s = 0 → mS rd 0 S) : RetX Γ m_M_schoolLine [.ref y] σ y (y + 4) none (fun τ => ∃ (g1 A1 rd1 : Nat → Int32) (ab1 : Bool), τ.2 y = some (.inr (.inr (10, mo y g1))) ∧ τ.2 (y + 1) = some (.inl (0, 4500, A1)) ∧ τ.2 (y + 3) = some (.inl (0, 120, rd1)) ∧ τ.2 (y + 2) = σ.2 (y + 2) ∧ MSt U n A0 A1 g1 (rel U n (lnX U n 4 S s)) ab1 ∧ SF (b + 1) rd1 ∧ (Rw (lnX U n 4 S s) = false → Rf (lnX U n 4 S s) = 0 → mS rd1 0 (LnF 4 (lnN U n 4 S s) S))) := by
  have hn6 := ht.1
  have hn16 := hwS.1
  have hn5 := hwS.2.1
  have h600 := tS0_le ht hok.1
  obtain ⟨⟨L, hL, hLb⟩, ⟨tc, htc, htb⟩, hpt, ⟨ls, hls, hls1, hls2⟩⟩ := id hSF
  have hLS : Rf s = 0 → L = S.1 := fun f => nI_injL (by omega) (by omega) (hL.symm.trans (hrd f).1)
  unfold RetX
  generalize hQ : ((fun (r0 : Option Value) (τ : ex_S) => r0 = none ∧ frm σ τ y (y + 4) ∧ (fun τ : ex_S => ∃ (g1 A1 rd1 : Nat → Int32) (ab1 : Bool), τ.2 y = some (.inr (.inr (10, mo y g1))) ∧ τ.2 (y + 1) = some (.inl (0, 4500, A1)) ∧ τ.2 (y + 3) = some (.inl (0, 120, rd1)) ∧ τ.2 (y + 2) = σ.2 (y + 2) ∧ MSt U n A0 A1 g1 (rel U n (lnX U n 4 S s)) ab1 ∧ SF (b + 1) rd1 ∧ (Rw (lnX U n 4 S s) = false → Rf (lnX U n 4 S s) = 0 → mS rd1 0 (LnF 4 (lnN U n 4 S s) S))) τ)) = Q
  refine Ret.start pm_182 rfl ?_
  have fr : frm σ σ y (y + 4) := frm.rf
  have m_has : σ.2 (y + 2) = σ.2 (y + 2) := rfl
  refine Ev.aload_n rfl rfl ?_
  refine Ev.getf rfl rfl m0 rfl ?_
  rw [hst.2.2.2.1.2.1]
  refine Ev.istore_n rfl rfl rfl ?_
  refine Ev.aload_n rfl rfl ?_
  refine Ev.iconst (v := 1) rfl (by decide) ?_
  refine Ev.bipush (v := 15) rfl (by decide) ?_
  refine Ev.xV2 rfl rfl m0 rfl rfl (by decide) ⟨(Nat.le_refl _), (Nat.le_refl _)⟩ (m_takes0_y (fi := 1) (la := 15) m0 m_all ht hA0 hst hok hw (by decide) ⟨hk, by rw [hW]; decide, by rw [hW]; decide⟩) (fun τ901 f9 q9 => ?_)
  obtain ⟨g901, A901, m0, m_all, hst⟩ := q9
  have m_read := frm.cell f9 m_read (by omega)
  have m_has := frm.cell f9 m_has (by omega)
  have fr := fr.step f9 (by omega) (by omega)
  rw [show nI (tW U n (Re s)) = (5 : Int32) from by rw [hW]; rfl]
  obtain ⟨s1, hs1⟩ : ∃ q : Rs, q = (false, tE U n (Re s), Rf s, Rp s) := ⟨_, rfl⟩
  rw [← hs1] at hst
  have hw1 : Rw s1 = false := by rw [hs1]; rfl
  have he1 : Re s1 = tE U n (Re s) := by rw [hs1]; rfl
  have hf1 : Rf s1 = Rf s := by rw [hs1]; rfl
  have hp1 : Rp s1 = Rp s := by rw [hs1]; rfl
  have hok0 := hok
  have hok : Rok U n s1 := by rw [hs1]; exact lw1_ok ht hok (by omega) hw
  have ha0 : tS0 U n (Re s) < tS0 U n (Re s1) := by rw [he1]; exact tE_st ht hok0.1 (by omega)
  have hpa : Rw s1 = false → ¬ Rf s1 = 0 → ∃ q, Rp s1 = nI q ∧ q < tS0 U n (Re s) := fun _ c => by
    rw [hp1]
    exact hok0.2.2 hw (by rw [← hf1]; exact c)
  refine Ev.istore_n rfl rfl rfl ?_
  refine Ev.iload_n rfl rfl ?_
  refine Ev.iconst (v := 1) rfl (by decide) ?_
  refine Ev.jne (tgt := 23) rfl (by decide) (fun c15 => ?_) (fun c15 => absurd c15 (by decide))
  refine Ev.iload_n rfl rfl ?_
  refine Ev.iconst (v := 2) rfl (by decide) ?_
  refine Ev.jne (tgt := 32) rfl (by decide) (fun c25 => ?_) (fun c25 => absurd c25 (by decide))
  refine Ev.iload_n rfl rfl ?_
  refine Ev.iconst (v := 3) rfl (by decide) ?_
  refine Ev.jne (tgt := 91) rfl (by decide) (fun c34 => ?_) (fun c34 => absurd c34 (by decide))
  refine Ev.iload_n rfl rfl ?_
  refine Ev.iconst (v := 4) rfl (by decide) ?_
  refine Ev.jne (tgt := 101) rfl (by decide) (fun c93 => ?_) (fun c93 => absurd c93 (by decide))
  refine Ev.iload_n rfl rfl ?_
  refine Ev.iconst (v := 5) rfl (by decide) ?_
  refine Ev.jeq (tgt := 112) rfl (by decide) (fun c103 => ?_) (fun c103 => absurd (by decide) c103)
  refine Ev.aload_n rfl rfl ?_
  refine Ev.iload_n rfl rfl ?_
  refine Ev.iconst (v := 5) rfl (by decide) ?_
  refine Ev.jne (tgt := 122) rfl (by decide) (fun c115 => absurd (by decide) c115) (fun c115 => ?_)
  refine Ev.iconst (v := 1) rfl (by decide) ?_
  refine Ev.goto (tgt := 123) rfl (by decide) ?_
  refine Ev.xV1u rfl rfl m0 rfl rfl (by decide) ⟨(Nat.le_refl _), (Nat.le_refl _)⟩ (m_tabL4_ok m0 m_all m_read ht hA0 hst hok hwS hb hSF (fun f => hrd (hf1.symm.trans f))) (fun τ880 f9 q9 => ?_)
  obtain ⟨g880, A880, rd880, ab880, m0, m_all, m_read, q_has, hst, q_SF, q_mS⟩ := q9
  have m_has := q_has.trans m_has
  have fr := fr.step f9 (by omega) (by omega)
  obtain ⟨s9, hs9⟩ : ∃ q, q = chn U n 4 S.1 s1 3 := ⟨_, rfl⟩
  rw [← hs9] at hst q_mS
  have hok : Rok U n s9 := by
    rw [hs9]
    exact chn_ok ht hok _
  refine Ev.iload_n rfl rfl ?_
  refine Ev.bipush (v := 7) rfl (by decide) ?_
  refine Ev.jne (tgt := 158) rfl (by decide) (fun c129 => ?_) (fun c129 => absurd c129 (by decide))
  refine Ev.iload_n rfl rfl ?_
  refine Ev.bipush (v := 8) rfl (by decide) ?_
  refine Ev.jne (tgt := 195) rfl (by decide) (fun c161 => ?_) (fun c161 => absurd c161 (by decide))
  refine Ev.iload_n rfl rfl ?_
  refine Ev.bipush (v := 9) rfl (by decide) ?_
  refine Ev.jne (tgt := 215) rfl (by decide) (fun c198 => ?_) (fun c198 => absurd c198 (by decide))
  refine Ev.iload_n rfl rfl ?_
  refine Ev.bipush (v := 10) rfl (by decide) ?_
  refine Ev.jne (tgt := 236) rfl (by decide) (fun c218 => ?_) (fun c218 => absurd c218 (by decide))
  refine Ev.iload_n rfl rfl ?_
  refine Ev.bipush (v := 11) rfl (by decide) ?_
  refine Ev.jne (tgt := 257) rfl (by decide) (fun c239 => ?_) (fun c239 => absurd c239 (by decide))
  refine Ev.iload_n rfl rfl ?_
  refine Ev.bipush (v := 12) rfl (by decide) ?_
  refine Ev.jne (tgt := 277) rfl (by decide) (fun c260 => ?_) (fun c260 => absurd c260 (by decide))
  refine Ev.iload_n rfl rfl ?_
  refine Ev.bipush (v := 13) rfl (by decide) ?_
  refine Ev.jne (tgt := 297) rfl (by decide) (fun c280 => ?_) (fun c280 => absurd c280 (by decide))
  refine Ev.iload_n rfl rfl ?_
  refine Ev.bipush (v := 14) rfl (by decide) ?_
  refine Ev.jne (tgt := 317) rfl (by decide) (fun c300 => ?_) (fun c300 => absurd c300 (by decide))
  refine Ev.iload_n rfl rfl ?_
  refine Ev.bipush (v := 15) rfl (by decide) ?_
  refine Ev.jne (tgt := 338) rfl (by decide) (fun c320 => ?_) (fun c320 => absurd c320 (by decide))
  refine Ev.aload_n rfl rfl ?_
  refine Ev.xV0u rfl rfl m0 rfl rfl (by decide) ⟨(Nat.le_refl _), (Nat.le_refl _)⟩ (m_endsL_ok m0 m_all ht hA0 hst hok) (fun τ902 f9 q9 => ?_)
  obtain ⟨g902, A902, m0, m_all, hst⟩ := q9
  have m_read := frm.cell f9 m_read (by omega)
  have m_has := frm.cell f9 m_has (by omega)
  have fr := fr.step f9 (by omega) (by omega)
  refine Ev.ret rfl rfl (Nat.le_refl _) (Nat.le_refl _) ?_
  have hls : lstS 4 S s1 (tS0 U n (Re s)) = s1 := by
    unfold lstS
    exact if_neg (by omega)
  have hX : lnX U n 4 S s = s9 := by
    unfold lnX lnS lw1
    rw [← hs1, hls]
    show chn U n 4 S.1 s1 3 = s9
    exact hs9.symm
  have hN : lnN U n 4 S s = nus U n 4 S.1 s1 := by
    unfold lnN lnS lw1
    rw [← hs1, hls]
  rw [← hQ, hX, hN]
  exact ⟨rfl, fr, _, _, _, _, m0, m_all, m_read, m_has, hst, q_SF, q_mS⟩
theorem m_schL5_ok (m0 : σ.2 y = some (.inr (.inr (10, mo y g)))) (m_all : σ.2 (y + 1) = some (.inl (0, 4500, A))) {rd : Nat → Int32} (m_read : σ.2 (y + 3) = some (.inl (0, 120, rd))) (ht : txt U n) (hA0 : ∀ p, p < n → A0 (10 + p) = nI (U p)) (hst : MSt0 U n A0 A g s) (hok : Rok U n s) (hw : Rw s = false) (hk : tK U n (Re s) = 3) (hW : tW U n (Re s) = 6) (hwS : wS S) {b : Nat} (hb : b ≤ 600) (hSF : SF b rd) (hrd : Rf s = 0 → mS rd 0 S) : RetX Γ m_M_schoolLine [.ref y] σ y (y + 4) none (fun τ => ∃ (g1 A1 rd1 : Nat → Int32) (ab1 : Bool), τ.2 y = some (.inr (.inr (10, mo y g1))) ∧ τ.2 (y + 1) = some (.inl (0, 4500, A1)) ∧ τ.2 (y + 3) = some (.inl (0, 120, rd1)) ∧ τ.2 (y + 2) = σ.2 (y + 2) ∧ MSt U n A0 A1 g1 (rel U n (lnX U n 5 S s)) ab1 ∧ SF (b + 1) rd1 ∧ (Rw (lnX U n 5 S s) = false → Rf (lnX U n 5 S s) = 0 → mS rd1 0 (LnF 5 (lnN U n 5 S s) S))) := by
  have hn6 := ht.1
  have hn16 := hwS.1
  have hn5 := hwS.2.1
  have h600 := tS0_le ht hok.1
  obtain ⟨⟨L, hL, hLb⟩, ⟨tc, htc, htb⟩, hpt, ⟨ls, hls, hls1, hls2⟩⟩ := id hSF
  have hLS : Rf s = 0 → L = S.1 := fun f => nI_injL (by omega) (by omega) (hL.symm.trans (hrd f).1)
  unfold RetX
  generalize hQ : ((fun (r0 : Option Value) (τ : ex_S) => r0 = none ∧ frm σ τ y (y + 4) ∧ (fun τ : ex_S => ∃ (g1 A1 rd1 : Nat → Int32) (ab1 : Bool), τ.2 y = some (.inr (.inr (10, mo y g1))) ∧ τ.2 (y + 1) = some (.inl (0, 4500, A1)) ∧ τ.2 (y + 3) = some (.inl (0, 120, rd1)) ∧ τ.2 (y + 2) = σ.2 (y + 2) ∧ MSt U n A0 A1 g1 (rel U n (lnX U n 5 S s)) ab1 ∧ SF (b + 1) rd1 ∧ (Rw (lnX U n 5 S s) = false → Rf (lnX U n 5 S s) = 0 → mS rd1 0 (LnF 5 (lnN U n 5 S s) S))) τ)) = Q
  refine Ret.start pm_182 rfl ?_
  have fr : frm σ σ y (y + 4) := frm.rf
  have m_has : σ.2 (y + 2) = σ.2 (y + 2) := rfl
  refine Ev.aload_n rfl rfl ?_
  refine Ev.getf rfl rfl m0 rfl ?_
  rw [hst.2.2.2.1.2.1]
  refine Ev.istore_n rfl rfl rfl ?_
  refine Ev.aload_n rfl rfl ?_
  refine Ev.iconst (v := 1) rfl (by decide) ?_
  refine Ev.bipush (v := 15) rfl (by decide) ?_
  refine Ev.xV2 rfl rfl m0 rfl rfl (by decide) ⟨(Nat.le_refl _), (Nat.le_refl _)⟩ (m_takes0_y (fi := 1) (la := 15) m0 m_all ht hA0 hst hok hw (by decide) ⟨hk, by rw [hW]; decide, by rw [hW]; decide⟩) (fun τ901 f9 q9 => ?_)
  obtain ⟨g901, A901, m0, m_all, hst⟩ := q9
  have m_read := frm.cell f9 m_read (by omega)
  have m_has := frm.cell f9 m_has (by omega)
  have fr := fr.step f9 (by omega) (by omega)
  rw [show nI (tW U n (Re s)) = (6 : Int32) from by rw [hW]; rfl]
  obtain ⟨s1, hs1⟩ : ∃ q : Rs, q = (false, tE U n (Re s), Rf s, Rp s) := ⟨_, rfl⟩
  rw [← hs1] at hst
  have hw1 : Rw s1 = false := by rw [hs1]; rfl
  have he1 : Re s1 = tE U n (Re s) := by rw [hs1]; rfl
  have hf1 : Rf s1 = Rf s := by rw [hs1]; rfl
  have hp1 : Rp s1 = Rp s := by rw [hs1]; rfl
  have hok0 := hok
  have hok : Rok U n s1 := by rw [hs1]; exact lw1_ok ht hok (by omega) hw
  have ha0 : tS0 U n (Re s) < tS0 U n (Re s1) := by rw [he1]; exact tE_st ht hok0.1 (by omega)
  have hpa : Rw s1 = false → ¬ Rf s1 = 0 → ∃ q, Rp s1 = nI q ∧ q < tS0 U n (Re s) := fun _ c => by
    rw [hp1]
    exact hok0.2.2 hw (by rw [← hf1]; exact c)
  refine Ev.istore_n rfl rfl rfl ?_
  refine Ev.iload_n rfl rfl ?_
  refine Ev.iconst (v := 1) rfl (by decide) ?_
  refine Ev.jne (tgt := 23) rfl (by decide) (fun c15 => ?_) (fun c15 => absurd c15 (by decide))
  refine Ev.iload_n rfl rfl ?_
  refine Ev.iconst (v := 2) rfl (by decide) ?_
  refine Ev.jne (tgt := 32) rfl (by decide) (fun c25 => ?_) (fun c25 => absurd c25 (by decide))
  refine Ev.iload_n rfl rfl ?_
  refine Ev.iconst (v := 3) rfl (by decide) ?_
  refine Ev.jne (tgt := 91) rfl (by decide) (fun c34 => ?_) (fun c34 => absurd c34 (by decide))
  refine Ev.iload_n rfl rfl ?_
  refine Ev.iconst (v := 4) rfl (by decide) ?_
  refine Ev.jne (tgt := 101) rfl (by decide) (fun c93 => ?_) (fun c93 => absurd c93 (by decide))
  refine Ev.iload_n rfl rfl ?_
  refine Ev.iconst (v := 5) rfl (by decide) ?_
  refine Ev.jeq (tgt := 112) rfl (by decide) (fun c103 => absurd c103 (by decide)) (fun c103 => ?_)
  refine Ev.iload_n rfl rfl ?_
  refine Ev.bipush (v := 6) rfl (by decide) ?_
  refine Ev.jne (tgt := 126) rfl (by decide) (fun c109 => absurd (by decide) c109) (fun c109 => ?_)
  refine Ev.aload_n rfl rfl ?_
  refine Ev.iload_n rfl rfl ?_
  refine Ev.iconst (v := 5) rfl (by decide) ?_
  refine Ev.jne (tgt := 122) rfl (by decide) (fun c115 => ?_) (fun c115 => absurd c115 (by decide))
  refine Ev.iconst (v := 0) rfl (by decide) ?_
  refine Ev.xV1u rfl rfl m0 rfl rfl (by decide) ⟨(Nat.le_refl _), (Nat.le_refl _)⟩ (m_tabL5_ok m0 m_all m_read ht hA0 hst hok hwS hb hSF (fun f => hrd (hf1.symm.trans f))) (fun τ880 f9 q9 => ?_)
  obtain ⟨g880, A880, rd880, ab880, m0, m_all, m_read, q_has, hst, q_SF, q_mS⟩ := q9
  have m_has := q_has.trans m_has
  have fr := fr.step f9 (by omega) (by omega)
  obtain ⟨s9, hs9⟩ : ∃ q, q = chn U n 5 S.1 s1 3 := ⟨_, rfl⟩
  rw [← hs9] at hst q_mS
  have hok : Rok U n s9 := by
    rw [hs9]
    exact chn_ok ht hok _
  refine Ev.iload_n rfl rfl ?_
  refine Ev.bipush (v := 7) rfl (by decide) ?_
  refine Ev.jne (tgt := 158) rfl (by decide) (fun c129 => ?_) (fun c129 => absurd c129 (by decide))
  refine Ev.iload_n rfl rfl ?_
  refine Ev.bipush (v := 8) rfl (by decide) ?_
  refine Ev.jne (tgt := 195) rfl (by decide) (fun c161 => ?_) (fun c161 => absurd c161 (by decide))
  refine Ev.iload_n rfl rfl ?_
  refine Ev.bipush (v := 9) rfl (by decide) ?_
  refine Ev.jne (tgt := 215) rfl (by decide) (fun c198 => ?_) (fun c198 => absurd c198 (by decide))
  refine Ev.iload_n rfl rfl ?_
  refine Ev.bipush (v := 10) rfl (by decide) ?_
  refine Ev.jne (tgt := 236) rfl (by decide) (fun c218 => ?_) (fun c218 => absurd c218 (by decide))
  refine Ev.iload_n rfl rfl ?_
  refine Ev.bipush (v := 11) rfl (by decide) ?_
  refine Ev.jne (tgt := 257) rfl (by decide) (fun c239 => ?_) (fun c239 => absurd c239 (by decide))
  refine Ev.iload_n rfl rfl ?_
  refine Ev.bipush (v := 12) rfl (by decide) ?_
  refine Ev.jne (tgt := 277) rfl (by decide) (fun c260 => ?_) (fun c260 => absurd c260 (by decide))
  refine Ev.iload_n rfl rfl ?_
  refine Ev.bipush (v := 13) rfl (by decide) ?_
  refine Ev.jne (tgt := 297) rfl (by decide) (fun c280 => ?_) (fun c280 => absurd c280 (by decide))
  refine Ev.iload_n rfl rfl ?_
  refine Ev.bipush (v := 14) rfl (by decide) ?_
  refine Ev.jne (tgt := 317) rfl (by decide) (fun c300 => ?_) (fun c300 => absurd c300 (by decide))
  refine Ev.iload_n rfl rfl ?_
  refine Ev.bipush (v := 15) rfl (by decide) ?_
  refine Ev.jne (tgt := 338) rfl (by decide) (fun c320 => ?_) (fun c320 => absurd c320 (by decide))
  refine Ev.aload_n rfl rfl ?_
  refine Ev.xV0u rfl rfl m0 rfl rfl (by decide) ⟨(Nat.le_refl _), (Nat.le_refl _)⟩ (m_endsL_ok m0 m_all ht hA0 hst hok) (fun τ902 f9 q9 => ?_)
  obtain ⟨g902, A902, m0, m_all, hst⟩ := q9
  have m_read := frm.cell f9 m_read (by omega)
  have m_has := frm.cell f9 m_has (by omega)
  have fr := fr.step f9 (by omega) (by omega)
  refine Ev.ret rfl rfl (Nat.le_refl _) (Nat.le_refl _) ?_
  have hls : lstS 5 S s1 (tS0 U n (Re s)) = s1 := by
    unfold lstS
    exact if_neg (by omega)
  have hX : lnX U n 5 S s = s9 := by
    unfold lnX lnS lw1
    rw [← hs1, hls]
    show chn U n 5 S.1 s1 3 = s9
    exact hs9.symm
  have hN : lnN U n 5 S s = nus U n 5 S.1 s1 := by
    unfold lnN lnS lw1
    rw [← hs1, hls]
  rw [← hQ, hX, hN]
  exact ⟨rfl, fr, _, _, _, _, m0, m_all, m_read, m_has, hst, q_SF, q_mS⟩
theorem m_schL6_ok (m0 : σ.2 y = some (.inr (.inr (10, mo y g)))) (m_all : σ.2 (y + 1) = some (.inl (0, 4500, A))) {rd : Nat → Int32} (m_read : σ.2 (y + 3) = some (.inl (0, 120, rd))) (ht : txt U n) (hA0 : ∀ p, p < n → A0 (10 + p) = nI (U p)) (hst : MSt0 U n A0 A g s) (hok : Rok U n s) (hw : Rw s = false) (hk : tK U n (Re s) = 3) (hW : tW U n (Re s) = 7) (hwS : wS S) {b : Nat} (hb : b ≤ 600) (hSF : SF b rd) (hrd : Rf s = 0 → mS rd 0 S) : RetX Γ m_M_schoolLine [.ref y] σ y (y + 4) none (fun τ => ∃ (g1 A1 rd1 : Nat → Int32) (ab1 : Bool), τ.2 y = some (.inr (.inr (10, mo y g1))) ∧ τ.2 (y + 1) = some (.inl (0, 4500, A1)) ∧ τ.2 (y + 3) = some (.inl (0, 120, rd1)) ∧ τ.2 (y + 2) = σ.2 (y + 2) ∧ MSt U n A0 A1 g1 (rel U n (lnX U n 6 S s)) ab1 ∧ SF (b + 1) rd1 ∧ (Rw (lnX U n 6 S s) = false → Rf (lnX U n 6 S s) = 0 → mS rd1 0 (LnF 6 (lnN U n 6 S s) S))) := by
  have hn6 := ht.1
  have hn16 := hwS.1
  have hn5 := hwS.2.1
  have h600 := tS0_le ht hok.1
  obtain ⟨⟨L, hL, hLb⟩, ⟨tc, htc, htb⟩, hpt, ⟨ls, hls, hls1, hls2⟩⟩ := id hSF
  have hLS : Rf s = 0 → L = S.1 := fun f => nI_injL (by omega) (by omega) (hL.symm.trans (hrd f).1)
  unfold RetX
  generalize hQ : ((fun (r0 : Option Value) (τ : ex_S) => r0 = none ∧ frm σ τ y (y + 4) ∧ (fun τ : ex_S => ∃ (g1 A1 rd1 : Nat → Int32) (ab1 : Bool), τ.2 y = some (.inr (.inr (10, mo y g1))) ∧ τ.2 (y + 1) = some (.inl (0, 4500, A1)) ∧ τ.2 (y + 3) = some (.inl (0, 120, rd1)) ∧ τ.2 (y + 2) = σ.2 (y + 2) ∧ MSt U n A0 A1 g1 (rel U n (lnX U n 6 S s)) ab1 ∧ SF (b + 1) rd1 ∧ (Rw (lnX U n 6 S s) = false → Rf (lnX U n 6 S s) = 0 → mS rd1 0 (LnF 6 (lnN U n 6 S s) S))) τ)) = Q
  refine Ret.start pm_182 rfl ?_
  have fr : frm σ σ y (y + 4) := frm.rf
  have m_has : σ.2 (y + 2) = σ.2 (y + 2) := rfl
  refine Ev.aload_n rfl rfl ?_
  refine Ev.getf rfl rfl m0 rfl ?_
  rw [hst.2.2.2.1.2.1]
  refine Ev.istore_n rfl rfl rfl ?_
  refine Ev.aload_n rfl rfl ?_
  refine Ev.iconst (v := 1) rfl (by decide) ?_
  refine Ev.bipush (v := 15) rfl (by decide) ?_
  refine Ev.xV2 rfl rfl m0 rfl rfl (by decide) ⟨(Nat.le_refl _), (Nat.le_refl _)⟩ (m_takes0_y (fi := 1) (la := 15) m0 m_all ht hA0 hst hok hw (by decide) ⟨hk, by rw [hW]; decide, by rw [hW]; decide⟩) (fun τ901 f9 q9 => ?_)
  obtain ⟨g901, A901, m0, m_all, hst⟩ := q9
  have m_read := frm.cell f9 m_read (by omega)
  have m_has := frm.cell f9 m_has (by omega)
  have fr := fr.step f9 (by omega) (by omega)
  rw [show nI (tW U n (Re s)) = (7 : Int32) from by rw [hW]; rfl]
  obtain ⟨s1, hs1⟩ : ∃ q : Rs, q = (false, tE U n (Re s), Rf s, Rp s) := ⟨_, rfl⟩
  rw [← hs1] at hst
  have hw1 : Rw s1 = false := by rw [hs1]; rfl
  have he1 : Re s1 = tE U n (Re s) := by rw [hs1]; rfl
  have hf1 : Rf s1 = Rf s := by rw [hs1]; rfl
  have hp1 : Rp s1 = Rp s := by rw [hs1]; rfl
  have hok0 := hok
  have hok : Rok U n s1 := by rw [hs1]; exact lw1_ok ht hok (by omega) hw
  have ha0 : tS0 U n (Re s) < tS0 U n (Re s1) := by rw [he1]; exact tE_st ht hok0.1 (by omega)
  have hpa : Rw s1 = false → ¬ Rf s1 = 0 → ∃ q, Rp s1 = nI q ∧ q < tS0 U n (Re s) := fun _ c => by
    rw [hp1]
    exact hok0.2.2 hw (by rw [← hf1]; exact c)
  refine Ev.istore_n rfl rfl rfl ?_
  refine Ev.iload_n rfl rfl ?_
  refine Ev.iconst (v := 1) rfl (by decide) ?_
  refine Ev.jne (tgt := 23) rfl (by decide) (fun c15 => ?_) (fun c15 => absurd c15 (by decide))
  refine Ev.iload_n rfl rfl ?_
  refine Ev.iconst (v := 2) rfl (by decide) ?_
  refine Ev.jne (tgt := 32) rfl (by decide) (fun c25 => ?_) (fun c25 => absurd c25 (by decide))
  refine Ev.iload_n rfl rfl ?_
  refine Ev.iconst (v := 3) rfl (by decide) ?_
  refine Ev.jne (tgt := 91) rfl (by decide) (fun c34 => ?_) (fun c34 => absurd c34 (by decide))
  refine Ev.iload_n rfl rfl ?_
  refine Ev.iconst (v := 4) rfl (by decide) ?_
  refine Ev.jne (tgt := 101) rfl (by decide) (fun c93 => ?_) (fun c93 => absurd c93 (by decide))
  refine Ev.iload_n rfl rfl ?_
  refine Ev.iconst (v := 5) rfl (by decide) ?_
  refine Ev.jeq (tgt := 112) rfl (by decide) (fun c103 => absurd c103 (by decide)) (fun c103 => ?_)
  refine Ev.iload_n rfl rfl ?_
  refine Ev.bipush (v := 6) rfl (by decide) ?_
  refine Ev.jne (tgt := 126) rfl (by decide) (fun c109 => ?_) (fun c109 => absurd c109 (by decide))
  refine Ev.iload_n rfl rfl ?_
  refine Ev.bipush (v := 7) rfl (by decide) ?_
  refine Ev.jne (tgt := 158) rfl (by decide) (fun c129 => absurd (by decide) c129) (fun c129 => ?_)
  refine Ev.aload_n rfl rfl ?_
  refine Ev.getf rfl rfl m0 rfl ?_
  refine Ev.iconst (v := 2) rfl (by decide) ?_
  refine Ev.aload_n rfl rfl ?_
  refine Ev.iconst (v := 1) rfl (by decide) ?_
  refine Ev.bipush (v := 15) rfl (by decide) ?_
  refine Ev.xV2 rfl rfl m0 rfl rfl (by decide) ⟨(Nat.le_refl _), (Nat.le_refl _)⟩ (m_numb_ok m0 m_all ht hA0 hst hok (lo := 1) (G := fun v => decide (1 ≤ v) && decide (v ≤ 15)) (K_in_G ⟨by decide, by decide⟩)) (fun τ902 f9 q9 => ?_)
  obtain ⟨g902, A902, m0, m_all, hst⟩ := q9
  have m_read := frm.cell f9 m_read (by omega)
  have m_has := frm.cell f9 m_has (by omega)
  have fr := fr.step f9 (by omega) (by omega)
  obtain ⟨s2, hs2⟩ : ∃ q, q = nst U n ((fun v => decide (1 ≤ v) && decide (v ≤ 15)) (tV U n (Re s1))) s1 := ⟨_, rfl⟩
  obtain ⟨ab2, hab2⟩ : ∃ q, q = rab U n (fun v => decide (1 ≤ v) && decide (v ≤ 15)) true s1 := ⟨_, rfl⟩
  obtain ⟨v2, hv2⟩ : ∃ q, q = rvl U n 1 (fun v => decide (1 ≤ v) && decide (v ≤ 15)) s1 := ⟨_, rfl⟩
  rw [← hs2, ← hab2] at hst
  rw [← hv2]
  have hok : Rok U n s2 := by
    rw [hs2]
    exact nst_ok ht hok
  have hr2 := rvl_le (U := U) (n := n) (lo := 1) (hi := 15) (s := s1) (by decide)
  rw [← hv2] at hr2
  refine Ev.iastE (k := 2) rfl m_read (rfl : (2 : Int32) = nI 2) ⟨(by omega), by decide⟩ (fun τ1 f1 m_read => ?_)
  have m0 := frm.cell f1 m0 (by omega)
  have m_all := frm.cell f1 m_all (by omega)
  have m_has := frm.cell f1 m_has (by omega)
  have fr := fr.step f1 (by omega) (by omega)
  refine Ev.aload_n rfl rfl ?_
  refine Ev.getf rfl rfl m0 rfl ?_
  refine Ev.iconst (v := 3) rfl (by decide) ?_
  refine Ev.aload_n rfl rfl ?_
  refine Ev.iconst (v := 0) rfl (by decide) ?_
  refine Ev.bipush (v := 20) rfl (by decide) ?_
  refine Ev.xV2 rfl rfl m0 rfl rfl (by decide) ⟨(Nat.le_refl _), (Nat.le_refl _)⟩ (m_numb_ok m0 m_all ht hA0 hst hok (lo := 0) (G := fun v => decide (0 ≤ v) && decide (v ≤ 20)) (K_in_G ⟨by decide, by decide⟩)) (fun τ903 f9 q9 => ?_)
  obtain ⟨g903, A903, m0, m_all, hst⟩ := q9
  have m_read := frm.cell f9 m_read (by omega)
  have m_has := frm.cell f9 m_has (by omega)
  have fr := fr.step f9 (by omega) (by omega)
  obtain ⟨s3, hs3⟩ : ∃ q, q = nst U n ((fun v => decide (0 ≤ v) && decide (v ≤ 20)) (tV U n (Re s2))) s2 := ⟨_, rfl⟩
  obtain ⟨ab3, hab3⟩ : ∃ q, q = rab U n (fun v => decide (0 ≤ v) && decide (v ≤ 20)) ab2 s2 := ⟨_, rfl⟩
  obtain ⟨v3, hv3⟩ : ∃ q, q = rvl U n 0 (fun v => decide (0 ≤ v) && decide (v ≤ 20)) s2 := ⟨_, rfl⟩
  rw [← hs3, ← hab3] at hst
  rw [← hv3]
  have hok : Rok U n s3 := by
    rw [hs3]
    exact nst_ok ht hok
  have hr3 := rvl_le (U := U) (n := n) (lo := 0) (hi := 20) (s := s2) (by decide)
  rw [← hv3] at hr3
  refine Ev.iastE (k := 3) rfl m_read (rfl : (3 : Int32) = nI 3) ⟨(by omega), by decide⟩ (fun τ2 f1 m_read => ?_)
  have m0 := frm.cell f1 m0 (by omega)
  have m_all := frm.cell f1 m_all (by omega)
  have m_has := frm.cell f1 m_has (by omega)
  have fr := fr.step f1 (by omega) (by omega)
  refine Ev.iload_n rfl rfl ?_
  refine Ev.bipush (v := 8) rfl (by decide) ?_
  refine Ev.jne (tgt := 195) rfl (by decide) (fun c161 => ?_) (fun c161 => absurd c161 (by decide))
  refine Ev.iload_n rfl rfl ?_
  refine Ev.bipush (v := 9) rfl (by decide) ?_
  refine Ev.jne (tgt := 215) rfl (by decide) (fun c198 => ?_) (fun c198 => absurd c198 (by decide))
  refine Ev.iload_n rfl rfl ?_
  refine Ev.bipush (v := 10) rfl (by decide) ?_
  refine Ev.jne (tgt := 236) rfl (by decide) (fun c218 => ?_) (fun c218 => absurd c218 (by decide))
  refine Ev.iload_n rfl rfl ?_
  refine Ev.bipush (v := 11) rfl (by decide) ?_
  refine Ev.jne (tgt := 257) rfl (by decide) (fun c239 => ?_) (fun c239 => absurd c239 (by decide))
  refine Ev.iload_n rfl rfl ?_
  refine Ev.bipush (v := 12) rfl (by decide) ?_
  refine Ev.jne (tgt := 277) rfl (by decide) (fun c260 => ?_) (fun c260 => absurd c260 (by decide))
  refine Ev.iload_n rfl rfl ?_
  refine Ev.bipush (v := 13) rfl (by decide) ?_
  refine Ev.jne (tgt := 297) rfl (by decide) (fun c280 => ?_) (fun c280 => absurd c280 (by decide))
  refine Ev.iload_n rfl rfl ?_
  refine Ev.bipush (v := 14) rfl (by decide) ?_
  refine Ev.jne (tgt := 317) rfl (by decide) (fun c300 => ?_) (fun c300 => absurd c300 (by decide))
  refine Ev.iload_n rfl rfl ?_
  refine Ev.bipush (v := 15) rfl (by decide) ?_
  refine Ev.jne (tgt := 338) rfl (by decide) (fun c320 => ?_) (fun c320 => absurd c320 (by decide))
  refine Ev.aload_n rfl rfl ?_
  refine Ev.xV0u rfl rfl m0 rfl rfl (by decide) ⟨(Nat.le_refl _), (Nat.le_refl _)⟩ (m_endsL_ok m0 m_all ht hA0 hst hok) (fun τ904 f9 q9 => ?_)
  obtain ⟨g904, A904, m0, m_all, hst⟩ := q9
  have m_read := frm.cell f9 m_read (by omega)
  have m_has := frm.cell f9 m_has (by omega)
  have fr := fr.step f9 (by omega) (by omega)
  refine Ev.ret rfl rfl (Nat.le_refl _) (Nat.le_refl _) ?_
  have hls : lstS 6 S s1 (tS0 U n (Re s)) = s1 := by
    unfold lstS
    exact if_neg (by omega)
  have hX : lnX U n 6 S s = s3 := by
    unfold lnX lnS lw1
    rw [← hs1, hls]
    show chn U n 6 S.1 s1 2 = s3
    rw [hs3, hs2]
    rfl
  have hN : lnN U n 6 S s = nus U n 6 S.1 s1 := by
    unfold lnN lnS lw1
    rw [← hs1, hls]
  rw [← hQ, hX, hN]
  refine ⟨rfl, fr, _, _, _, _, m0, m_all, m_read, m_has, hst, ?_, ?_⟩
  · exact ((hSF.mono (Nat.le_succ b)).put (by omega)).put (by omega)
  · intro hw9 hf9
    rw [hs3] at hw9 hf9
    obtain ⟨w3, k3, f3, g3, -⟩ := nst_f0 hw9 hf9
    have q3 := f3
    have r3 := w3
    rw [hs2] at q3 r3
    obtain ⟨w2, k2, f2, g2, -⟩ := nst_f0 r3 q3
    have hm := hrd (hf1.symm.trans f2)
    have u2 : v2 = tV U n (Re s1) := by rw [hv2, rvl_ok w2 k2 g2]
    have u3 : v3 = tV U n (Re s2) := by rw [hv3, rvl_ok w3 k3 g3]
    have e2 : chn U n 6 S.1 s1 1 = s2 := by
      rw [hs2]
      rfl
    have n0 : nus U n 6 S.1 s1 0 = v2 := u2.symm
    have n1 : nus U n 6 S.1 s1 1 = v3 := by unfold nus; rw [e2, u3]
    show mS _ 0 (S_ar S 9 (upd (upd (S.2.2 9) 0 (nI (nus U n 6 S.1 s1 0))) 1 (nI (nus U n 6 S.1 s1 1))))
    rw [n0, n1]
    exact mS_9b (j := 0) (k := 1) hm hn16 hn5 (by omega) (by omega)
theorem m_schL7_ok (m0 : σ.2 y = some (.inr (.inr (10, mo y g)))) (m_all : σ.2 (y + 1) = some (.inl (0, 4500, A))) {rd : Nat → Int32} (m_read : σ.2 (y + 3) = some (.inl (0, 120, rd))) (ht : txt U n) (hA0 : ∀ p, p < n → A0 (10 + p) = nI (U p)) (hst : MSt0 U n A0 A g s) (hok : Rok U n s) (hw : Rw s = false) (hk : tK U n (Re s) = 3) (hW : tW U n (Re s) = 8) (hwS : wS S) {b : Nat} (hb : b ≤ 600) (hSF : SF b rd) (hrd : Rf s = 0 → mS rd 0 S) : RetX Γ m_M_schoolLine [.ref y] σ y (y + 4) none (fun τ => ∃ (g1 A1 rd1 : Nat → Int32) (ab1 : Bool), τ.2 y = some (.inr (.inr (10, mo y g1))) ∧ τ.2 (y + 1) = some (.inl (0, 4500, A1)) ∧ τ.2 (y + 3) = some (.inl (0, 120, rd1)) ∧ τ.2 (y + 2) = σ.2 (y + 2) ∧ MSt U n A0 A1 g1 (rel U n (lnX U n 7 S s)) ab1 ∧ SF (b + 1) rd1 ∧ (Rw (lnX U n 7 S s) = false → Rf (lnX U n 7 S s) = 0 → mS rd1 0 (LnF 7 (lnN U n 7 S s) S))) := by
  have hn6 := ht.1
  have hn16 := hwS.1
  have hn5 := hwS.2.1
  have h600 := tS0_le ht hok.1
  obtain ⟨⟨L, hL, hLb⟩, ⟨tc, htc, htb⟩, hpt, ⟨ls, hls, hls1, hls2⟩⟩ := id hSF
  have hLS : Rf s = 0 → L = S.1 := fun f => nI_injL (by omega) (by omega) (hL.symm.trans (hrd f).1)
  unfold RetX
  generalize hQ : ((fun (r0 : Option Value) (τ : ex_S) => r0 = none ∧ frm σ τ y (y + 4) ∧ (fun τ : ex_S => ∃ (g1 A1 rd1 : Nat → Int32) (ab1 : Bool), τ.2 y = some (.inr (.inr (10, mo y g1))) ∧ τ.2 (y + 1) = some (.inl (0, 4500, A1)) ∧ τ.2 (y + 3) = some (.inl (0, 120, rd1)) ∧ τ.2 (y + 2) = σ.2 (y + 2) ∧ MSt U n A0 A1 g1 (rel U n (lnX U n 7 S s)) ab1 ∧ SF (b + 1) rd1 ∧ (Rw (lnX U n 7 S s) = false → Rf (lnX U n 7 S s) = 0 → mS rd1 0 (LnF 7 (lnN U n 7 S s) S))) τ)) = Q
  refine Ret.start pm_182 rfl ?_
  have fr : frm σ σ y (y + 4) := frm.rf
  have m_has : σ.2 (y + 2) = σ.2 (y + 2) := rfl
  refine Ev.aload_n rfl rfl ?_
  refine Ev.getf rfl rfl m0 rfl ?_
  rw [hst.2.2.2.1.2.1]
  refine Ev.istore_n rfl rfl rfl ?_
  refine Ev.aload_n rfl rfl ?_
  refine Ev.iconst (v := 1) rfl (by decide) ?_
  refine Ev.bipush (v := 15) rfl (by decide) ?_
  refine Ev.xV2 rfl rfl m0 rfl rfl (by decide) ⟨(Nat.le_refl _), (Nat.le_refl _)⟩ (m_takes0_y (fi := 1) (la := 15) m0 m_all ht hA0 hst hok hw (by decide) ⟨hk, by rw [hW]; decide, by rw [hW]; decide⟩) (fun τ901 f9 q9 => ?_)
  obtain ⟨g901, A901, m0, m_all, hst⟩ := q9
  have m_read := frm.cell f9 m_read (by omega)
  have m_has := frm.cell f9 m_has (by omega)
  have fr := fr.step f9 (by omega) (by omega)
  rw [show nI (tW U n (Re s)) = (8 : Int32) from by rw [hW]; rfl]
  obtain ⟨s1, hs1⟩ : ∃ q : Rs, q = (false, tE U n (Re s), Rf s, Rp s) := ⟨_, rfl⟩
  rw [← hs1] at hst
  have hw1 : Rw s1 = false := by rw [hs1]; rfl
  have he1 : Re s1 = tE U n (Re s) := by rw [hs1]; rfl
  have hf1 : Rf s1 = Rf s := by rw [hs1]; rfl
  have hp1 : Rp s1 = Rp s := by rw [hs1]; rfl
  have hok0 := hok
  have hok : Rok U n s1 := by rw [hs1]; exact lw1_ok ht hok (by omega) hw
  have ha0 : tS0 U n (Re s) < tS0 U n (Re s1) := by rw [he1]; exact tE_st ht hok0.1 (by omega)
  have hpa : Rw s1 = false → ¬ Rf s1 = 0 → ∃ q, Rp s1 = nI q ∧ q < tS0 U n (Re s) := fun _ c => by
    rw [hp1]
    exact hok0.2.2 hw (by rw [← hf1]; exact c)
  refine Ev.istore_n rfl rfl rfl ?_
  refine Ev.iload_n rfl rfl ?_
  refine Ev.iconst (v := 1) rfl (by decide) ?_
  refine Ev.jne (tgt := 23) rfl (by decide) (fun c15 => ?_) (fun c15 => absurd c15 (by decide))
  refine Ev.iload_n rfl rfl ?_
  refine Ev.iconst (v := 2) rfl (by decide) ?_
  refine Ev.jne (tgt := 32) rfl (by decide) (fun c25 => ?_) (fun c25 => absurd c25 (by decide))
  refine Ev.iload_n rfl rfl ?_
  refine Ev.iconst (v := 3) rfl (by decide) ?_
  refine Ev.jne (tgt := 91) rfl (by decide) (fun c34 => ?_) (fun c34 => absurd c34 (by decide))
  refine Ev.iload_n rfl rfl ?_
  refine Ev.iconst (v := 4) rfl (by decide) ?_
  refine Ev.jne (tgt := 101) rfl (by decide) (fun c93 => ?_) (fun c93 => absurd c93 (by decide))
  refine Ev.iload_n rfl rfl ?_
  refine Ev.iconst (v := 5) rfl (by decide) ?_
  refine Ev.jeq (tgt := 112) rfl (by decide) (fun c103 => absurd c103 (by decide)) (fun c103 => ?_)
  refine Ev.iload_n rfl rfl ?_
  refine Ev.bipush (v := 6) rfl (by decide) ?_
  refine Ev.jne (tgt := 126) rfl (by decide) (fun c109 => ?_) (fun c109 => absurd c109 (by decide))
  refine Ev.iload_n rfl rfl ?_
  refine Ev.bipush (v := 7) rfl (by decide) ?_
  refine Ev.jne (tgt := 158) rfl (by decide) (fun c129 => ?_) (fun c129 => absurd c129 (by decide))
  refine Ev.iload_n rfl rfl ?_
  refine Ev.bipush (v := 8) rfl (by decide) ?_
  refine Ev.jne (tgt := 195) rfl (by decide) (fun c161 => absurd (by decide) c161) (fun c161 => ?_)
  refine Ev.aload_n rfl rfl ?_
  refine Ev.getf rfl rfl m0 rfl ?_
  refine Ev.iconst (v := 4) rfl (by decide) ?_
  refine Ev.aload_n rfl rfl ?_
  refine Ev.iconst (v := 1) rfl (by decide) ?_
  refine Ev.bipush (v := 15) rfl (by decide) ?_
  refine Ev.xV2 rfl rfl m0 rfl rfl (by decide) ⟨(Nat.le_refl _), (Nat.le_refl _)⟩ (m_numb_ok m0 m_all ht hA0 hst hok (lo := 1) (G := fun v => decide (1 ≤ v) && decide (v ≤ 15)) (K_in_G ⟨by decide, by decide⟩)) (fun τ902 f9 q9 => ?_)
  obtain ⟨g902, A902, m0, m_all, hst⟩ := q9
  have m_read := frm.cell f9 m_read (by omega)
  have m_has := frm.cell f9 m_has (by omega)
  have fr := fr.step f9 (by omega) (by omega)
  obtain ⟨s2, hs2⟩ : ∃ q, q = nst U n ((fun v => decide (1 ≤ v) && decide (v ≤ 15)) (tV U n (Re s1))) s1 := ⟨_, rfl⟩
  obtain ⟨ab2, hab2⟩ : ∃ q, q = rab U n (fun v => decide (1 ≤ v) && decide (v ≤ 15)) true s1 := ⟨_, rfl⟩
  obtain ⟨v2, hv2⟩ : ∃ q, q = rvl U n 1 (fun v => decide (1 ≤ v) && decide (v ≤ 15)) s1 := ⟨_, rfl⟩
  rw [← hs2, ← hab2] at hst
  rw [← hv2]
  have hok : Rok U n s2 := by
    rw [hs2]
    exact nst_ok ht hok
  have hr2 := rvl_le (U := U) (n := n) (lo := 1) (hi := 15) (s := s1) (by decide)
  rw [← hv2] at hr2
  refine Ev.iastE (k := 4) rfl m_read (rfl : (4 : Int32) = nI 4) ⟨(by omega), by decide⟩ (fun τ1 f1 m_read => ?_)
  have m0 := frm.cell f1 m0 (by omega)
  have m_all := frm.cell f1 m_all (by omega)
  have m_has := frm.cell f1 m_has (by omega)
  have fr := fr.step f1 (by omega) (by omega)
  refine Ev.aload_n rfl rfl ?_
  refine Ev.getf rfl rfl m0 rfl ?_
  refine Ev.iconst (v := 5) rfl (by decide) ?_
  refine Ev.aload_n rfl rfl ?_
  refine Ev.aload_n rfl rfl ?_
  refine Ev.getf rfl rfl m0 rfl ?_
  refine Ev.iconst (v := 4) rfl (by decide) ?_
  refine Ev.ialdN (k := 4) rfl m_read (rfl : (4 : Int32) = nI 4) ⟨(by omega), by decide⟩ ?_
  rw [show (upd rd 4 (nI v2)) 4 = nI v2 from pk_us]
  refine Ev.bipush (v := 15) rfl (by decide) ?_
  refine Ev.xV2 rfl rfl m0 rfl rfl (by decide) ⟨(Nat.le_refl _), (Nat.le_refl _)⟩ (m_numb_ok m0 m_all ht hA0 hst hok (lo := v2) (G := fun v => decide (v2 ≤ v) && decide (v ≤ 15)) (K_in_G ⟨by omega, by decide⟩)) (fun τ903 f9 q9 => ?_)
  obtain ⟨g903, A903, m0, m_all, hst⟩ := q9
  have m_read := frm.cell f9 m_read (by omega)
  have m_has := frm.cell f9 m_has (by omega)
  have fr := fr.step f9 (by omega) (by omega)
  obtain ⟨s3, hs3⟩ : ∃ q, q = nst U n ((fun v => decide (v2 ≤ v) && decide (v ≤ 15)) (tV U n (Re s2))) s2 := ⟨_, rfl⟩
  obtain ⟨ab3, hab3⟩ : ∃ q, q = rab U n (fun v => decide (v2 ≤ v) && decide (v ≤ 15)) ab2 s2 := ⟨_, rfl⟩
  obtain ⟨v3, hv3⟩ : ∃ q, q = rvl U n v2 (fun v => decide (v2 ≤ v) && decide (v ≤ 15)) s2 := ⟨_, rfl⟩
  rw [← hs3, ← hab3] at hst
  rw [← hv3]
  have hok : Rok U n s3 := by
    rw [hs3]
    exact nst_ok ht hok
  refine Ev.iastE (k := 5) rfl m_read (rfl : (5 : Int32) = nI 5) ⟨(by omega), by decide⟩ (fun τ2 f1 m_read => ?_)
  have m0 := frm.cell f1 m0 (by omega)
  have m_all := frm.cell f1 m_all (by omega)
  have m_has := frm.cell f1 m_has (by omega)
  have fr := fr.step f1 (by omega) (by omega)
  refine Ev.iload_n rfl rfl ?_
  refine Ev.bipush (v := 9) rfl (by decide) ?_
  refine Ev.jne (tgt := 215) rfl (by decide) (fun c198 => ?_) (fun c198 => absurd c198 (by decide))
  refine Ev.iload_n rfl rfl ?_
  refine Ev.bipush (v := 10) rfl (by decide) ?_
  refine Ev.jne (tgt := 236) rfl (by decide) (fun c218 => ?_) (fun c218 => absurd c218 (by decide))
  refine Ev.iload_n rfl rfl ?_
  refine Ev.bipush (v := 11) rfl (by decide) ?_
  refine Ev.jne (tgt := 257) rfl (by decide) (fun c239 => ?_) (fun c239 => absurd c239 (by decide))
  refine Ev.iload_n rfl rfl ?_
  refine Ev.bipush (v := 12) rfl (by decide) ?_
  refine Ev.jne (tgt := 277) rfl (by decide) (fun c260 => ?_) (fun c260 => absurd c260 (by decide))
  refine Ev.iload_n rfl rfl ?_
  refine Ev.bipush (v := 13) rfl (by decide) ?_
  refine Ev.jne (tgt := 297) rfl (by decide) (fun c280 => ?_) (fun c280 => absurd c280 (by decide))
  refine Ev.iload_n rfl rfl ?_
  refine Ev.bipush (v := 14) rfl (by decide) ?_
  refine Ev.jne (tgt := 317) rfl (by decide) (fun c300 => ?_) (fun c300 => absurd c300 (by decide))
  refine Ev.iload_n rfl rfl ?_
  refine Ev.bipush (v := 15) rfl (by decide) ?_
  refine Ev.jne (tgt := 338) rfl (by decide) (fun c320 => ?_) (fun c320 => absurd c320 (by decide))
  refine Ev.aload_n rfl rfl ?_
  refine Ev.xV0u rfl rfl m0 rfl rfl (by decide) ⟨(Nat.le_refl _), (Nat.le_refl _)⟩ (m_endsL_ok m0 m_all ht hA0 hst hok) (fun τ904 f9 q9 => ?_)
  obtain ⟨g904, A904, m0, m_all, hst⟩ := q9
  have m_read := frm.cell f9 m_read (by omega)
  have m_has := frm.cell f9 m_has (by omega)
  have fr := fr.step f9 (by omega) (by omega)
  refine Ev.ret rfl rfl (Nat.le_refl _) (Nat.le_refl _) ?_
  have e1 : chn U n 7 S.1 s1 1 = s2 := by
    rw [hs2]
    rfl
  have hls : lstS 7 S s1 (tS0 U n (Re s)) = s1 := by
    unfold lstS
    exact if_neg (by omega)
  have hX : lnX U n 7 S s = s3 := by
    unfold lnX lnS lw1
    rw [← hs1, hls]
    show chn U n 7 S.1 s1 2 = s3
    show nst U n (gds 7 1 (tV U n (Re s1)) S.1 (tV U n (Re (chn U n 7 S.1 s1 1)))) (chn U n 7 S.1 s1 1) = s3
    rw [e1, hs3]
    refine nst_eq rfl (fun q1 _ q2 => ?_)
    rw [hs2] at q1 q2
    obtain ⟨w1, k1, f1, g1, -⟩ := nst_f0 q1 q2
    have u2 : v2 = tV U n (Re s1) := by rw [hv2, rvl_ok w1 k1 g1]
    show (decide (1 ≤ tV U n (Re s2)) && decide (tV U n (Re s2) ≤ 15) && decide (tV U n (Re s1) ≤ tV U n (Re s2))) = (decide (v2 ≤ tV U n (Re s2)) && decide (tV U n (Re s2) ≤ 15))
    rw [← u2]
    by_cases a1 : v2 ≤ tV U n (Re s2)
    · rw [decide_eq_true a1, decide_eq_true (show 1 ≤ tV U n (Re s2) by omega)]
      simp
    · rw [decide_eq_false a1]
      simp
  have hN : lnN U n 7 S s = nus U n 7 S.1 s1 := by
    unfold lnN lnS lw1
    rw [← hs1, hls]
  rw [← hQ, hX, hN]
  refine ⟨rfl, fr, _, _, _, _, m0, m_all, m_read, m_has, hst, ?_, ?_⟩
  · exact ((hSF.mono (Nat.le_succ b)).lst (by omega)).put (by omega)
  · intro hw9 hf9
    rw [hs3] at hw9 hf9
    obtain ⟨w3, k3, f3, g3, -⟩ := nst_f0 hw9 hf9
    have q3 := f3
    have r3 := w3
    rw [hs2] at q3 r3
    obtain ⟨w2, k2, f2, g2, -⟩ := nst_f0 r3 q3
    have hm := hrd (hf1.symm.trans f2)
    have u2 : v2 = tV U n (Re s1) := by rw [hv2, rvl_ok w2 k2 g2]
    have u3 : v3 = tV U n (Re s2) := by rw [hv3, rvl_ok w3 k3 g3]
    have e2 : chn U n 7 S.1 s1 1 = s2 := by
      rw [hs2]
      rfl
    have n0 : nus U n 7 S.1 s1 0 = v2 := u2.symm
    have n1 : nus U n 7 S.1 s1 1 = v3 := by unfold nus; rw [e2, u3]
    show mS _ 0 (S_ar S 9 (upd (upd (S.2.2 9) 2 (nI (nus U n 7 S.1 s1 0))) 3 (nI (nus U n 7 S.1 s1 1))))
    rw [n0, n1]
    exact mS_9b (j := 2) (k := 3) hm hn16 hn5 (by omega) (by omega)
theorem m_schL8_ok (m0 : σ.2 y = some (.inr (.inr (10, mo y g)))) (m_all : σ.2 (y + 1) = some (.inl (0, 4500, A))) {rd : Nat → Int32} (m_read : σ.2 (y + 3) = some (.inl (0, 120, rd))) (ht : txt U n) (hA0 : ∀ p, p < n → A0 (10 + p) = nI (U p)) (hst : MSt0 U n A0 A g s) (hok : Rok U n s) (hw : Rw s = false) (hk : tK U n (Re s) = 3) (hW : tW U n (Re s) = 9) (hwS : wS S) {b : Nat} (hb : b ≤ 600) (hSF : SF b rd) (hrd : Rf s = 0 → mS rd 0 S) : RetX Γ m_M_schoolLine [.ref y] σ y (y + 4) none (fun τ => ∃ (g1 A1 rd1 : Nat → Int32) (ab1 : Bool), τ.2 y = some (.inr (.inr (10, mo y g1))) ∧ τ.2 (y + 1) = some (.inl (0, 4500, A1)) ∧ τ.2 (y + 3) = some (.inl (0, 120, rd1)) ∧ τ.2 (y + 2) = σ.2 (y + 2) ∧ MSt U n A0 A1 g1 (rel U n (lnX U n 8 S s)) ab1 ∧ SF (b + 1) rd1 ∧ (Rw (lnX U n 8 S s) = false → Rf (lnX U n 8 S s) = 0 → mS rd1 0 (LnF 8 (lnN U n 8 S s) S))) := by
  have hn6 := ht.1
  have hn16 := hwS.1
  have hn5 := hwS.2.1
  have h600 := tS0_le ht hok.1
  obtain ⟨⟨L, hL, hLb⟩, ⟨tc, htc, htb⟩, hpt, ⟨ls, hls, hls1, hls2⟩⟩ := id hSF
  have hLS : Rf s = 0 → L = S.1 := fun f => nI_injL (by omega) (by omega) (hL.symm.trans (hrd f).1)
  unfold RetX
  generalize hQ : ((fun (r0 : Option Value) (τ : ex_S) => r0 = none ∧ frm σ τ y (y + 4) ∧ (fun τ : ex_S => ∃ (g1 A1 rd1 : Nat → Int32) (ab1 : Bool), τ.2 y = some (.inr (.inr (10, mo y g1))) ∧ τ.2 (y + 1) = some (.inl (0, 4500, A1)) ∧ τ.2 (y + 3) = some (.inl (0, 120, rd1)) ∧ τ.2 (y + 2) = σ.2 (y + 2) ∧ MSt U n A0 A1 g1 (rel U n (lnX U n 8 S s)) ab1 ∧ SF (b + 1) rd1 ∧ (Rw (lnX U n 8 S s) = false → Rf (lnX U n 8 S s) = 0 → mS rd1 0 (LnF 8 (lnN U n 8 S s) S))) τ)) = Q
  refine Ret.start pm_182 rfl ?_
  have fr : frm σ σ y (y + 4) := frm.rf
  have m_has : σ.2 (y + 2) = σ.2 (y + 2) := rfl
  refine Ev.aload_n rfl rfl ?_
  refine Ev.getf rfl rfl m0 rfl ?_
  rw [hst.2.2.2.1.2.1]
  refine Ev.istore_n rfl rfl rfl ?_
  refine Ev.aload_n rfl rfl ?_
  refine Ev.iconst (v := 1) rfl (by decide) ?_
  refine Ev.bipush (v := 15) rfl (by decide) ?_
  refine Ev.xV2 rfl rfl m0 rfl rfl (by decide) ⟨(Nat.le_refl _), (Nat.le_refl _)⟩ (m_takes0_y (fi := 1) (la := 15) m0 m_all ht hA0 hst hok hw (by decide) ⟨hk, by rw [hW]; decide, by rw [hW]; decide⟩) (fun τ901 f9 q9 => ?_)
  obtain ⟨g901, A901, m0, m_all, hst⟩ := q9
  have m_read := frm.cell f9 m_read (by omega)
  have m_has := frm.cell f9 m_has (by omega)
  have fr := fr.step f9 (by omega) (by omega)
  rw [show nI (tW U n (Re s)) = (9 : Int32) from by rw [hW]; rfl]
  obtain ⟨s1, hs1⟩ : ∃ q : Rs, q = (false, tE U n (Re s), Rf s, Rp s) := ⟨_, rfl⟩
  rw [← hs1] at hst
  have hw1 : Rw s1 = false := by rw [hs1]; rfl
  have he1 : Re s1 = tE U n (Re s) := by rw [hs1]; rfl
  have hf1 : Rf s1 = Rf s := by rw [hs1]; rfl
  have hp1 : Rp s1 = Rp s := by rw [hs1]; rfl
  have hok0 := hok
  have hok : Rok U n s1 := by rw [hs1]; exact lw1_ok ht hok (by omega) hw
  have ha0 : tS0 U n (Re s) < tS0 U n (Re s1) := by rw [he1]; exact tE_st ht hok0.1 (by omega)
  have hpa : Rw s1 = false → ¬ Rf s1 = 0 → ∃ q, Rp s1 = nI q ∧ q < tS0 U n (Re s) := fun _ c => by
    rw [hp1]
    exact hok0.2.2 hw (by rw [← hf1]; exact c)
  refine Ev.istore_n rfl rfl rfl ?_
  refine Ev.iload_n rfl rfl ?_
  refine Ev.iconst (v := 1) rfl (by decide) ?_
  refine Ev.jne (tgt := 23) rfl (by decide) (fun c15 => ?_) (fun c15 => absurd c15 (by decide))
  refine Ev.iload_n rfl rfl ?_
  refine Ev.iconst (v := 2) rfl (by decide) ?_
  refine Ev.jne (tgt := 32) rfl (by decide) (fun c25 => ?_) (fun c25 => absurd c25 (by decide))
  refine Ev.iload_n rfl rfl ?_
  refine Ev.iconst (v := 3) rfl (by decide) ?_
  refine Ev.jne (tgt := 91) rfl (by decide) (fun c34 => ?_) (fun c34 => absurd c34 (by decide))
  refine Ev.iload_n rfl rfl ?_
  refine Ev.iconst (v := 4) rfl (by decide) ?_
  refine Ev.jne (tgt := 101) rfl (by decide) (fun c93 => ?_) (fun c93 => absurd c93 (by decide))
  refine Ev.iload_n rfl rfl ?_
  refine Ev.iconst (v := 5) rfl (by decide) ?_
  refine Ev.jeq (tgt := 112) rfl (by decide) (fun c103 => absurd c103 (by decide)) (fun c103 => ?_)
  refine Ev.iload_n rfl rfl ?_
  refine Ev.bipush (v := 6) rfl (by decide) ?_
  refine Ev.jne (tgt := 126) rfl (by decide) (fun c109 => ?_) (fun c109 => absurd c109 (by decide))
  refine Ev.iload_n rfl rfl ?_
  refine Ev.bipush (v := 7) rfl (by decide) ?_
  refine Ev.jne (tgt := 158) rfl (by decide) (fun c129 => ?_) (fun c129 => absurd c129 (by decide))
  refine Ev.iload_n rfl rfl ?_
  refine Ev.bipush (v := 8) rfl (by decide) ?_
  refine Ev.jne (tgt := 195) rfl (by decide) (fun c161 => ?_) (fun c161 => absurd c161 (by decide))
  refine Ev.iload_n rfl rfl ?_
  refine Ev.bipush (v := 9) rfl (by decide) ?_
  refine Ev.jne (tgt := 215) rfl (by decide) (fun c198 => absurd (by decide) c198) (fun c198 => ?_)
  refine Ev.aload_n rfl rfl ?_
  refine Ev.getf rfl rfl m0 rfl ?_
  refine Ev.bipush (v := 6) rfl (by decide) ?_
  refine Ev.aload_n rfl rfl ?_
  refine Ev.iconst (v := 1) rfl (by decide) ?_
  refine Ev.bipush (v := 9) rfl (by decide) ?_
  refine Ev.xV2 rfl rfl m0 rfl rfl (by decide) ⟨(Nat.le_refl _), (Nat.le_refl _)⟩ (m_numb_ok m0 m_all ht hA0 hst hok (lo := 1) (G := fun v => decide (1 ≤ v) && decide (v ≤ 9)) (K_in_G ⟨by decide, by decide⟩)) (fun τ902 f9 q9 => ?_)
  obtain ⟨g902, A902, m0, m_all, hst⟩ := q9
  have m_read := frm.cell f9 m_read (by omega)
  have m_has := frm.cell f9 m_has (by omega)
  have fr := fr.step f9 (by omega) (by omega)
  obtain ⟨s2, hs2⟩ : ∃ q, q = nst U n ((fun v => decide (1 ≤ v) && decide (v ≤ 9)) (tV U n (Re s1))) s1 := ⟨_, rfl⟩
  obtain ⟨ab2, hab2⟩ : ∃ q, q = rab U n (fun v => decide (1 ≤ v) && decide (v ≤ 9)) true s1 := ⟨_, rfl⟩
  obtain ⟨v2, hv2⟩ : ∃ q, q = rvl U n 1 (fun v => decide (1 ≤ v) && decide (v ≤ 9)) s1 := ⟨_, rfl⟩
  rw [← hs2, ← hab2] at hst
  rw [← hv2]
  have hok : Rok U n s2 := by
    rw [hs2]
    exact nst_ok ht hok
  have hr2 := rvl_le (U := U) (n := n) (lo := 1) (hi := 9) (s := s1) (by decide)
  rw [← hv2] at hr2
  refine Ev.iastE (k := 6) rfl m_read (rfl : (6 : Int32) = nI 6) ⟨(by omega), by decide⟩ (fun τ1 f1 m_read => ?_)
  have m0 := frm.cell f1 m0 (by omega)
  have m_all := frm.cell f1 m_all (by omega)
  have m_has := frm.cell f1 m_has (by omega)
  have fr := fr.step f1 (by omega) (by omega)
  refine Ev.iload_n rfl rfl ?_
  refine Ev.bipush (v := 10) rfl (by decide) ?_
  refine Ev.jne (tgt := 236) rfl (by decide) (fun c218 => ?_) (fun c218 => absurd c218 (by decide))
  refine Ev.iload_n rfl rfl ?_
  refine Ev.bipush (v := 11) rfl (by decide) ?_
  refine Ev.jne (tgt := 257) rfl (by decide) (fun c239 => ?_) (fun c239 => absurd c239 (by decide))
  refine Ev.iload_n rfl rfl ?_
  refine Ev.bipush (v := 12) rfl (by decide) ?_
  refine Ev.jne (tgt := 277) rfl (by decide) (fun c260 => ?_) (fun c260 => absurd c260 (by decide))
  refine Ev.iload_n rfl rfl ?_
  refine Ev.bipush (v := 13) rfl (by decide) ?_
  refine Ev.jne (tgt := 297) rfl (by decide) (fun c280 => ?_) (fun c280 => absurd c280 (by decide))
  refine Ev.iload_n rfl rfl ?_
  refine Ev.bipush (v := 14) rfl (by decide) ?_
  refine Ev.jne (tgt := 317) rfl (by decide) (fun c300 => ?_) (fun c300 => absurd c300 (by decide))
  refine Ev.iload_n rfl rfl ?_
  refine Ev.bipush (v := 15) rfl (by decide) ?_
  refine Ev.jne (tgt := 338) rfl (by decide) (fun c320 => ?_) (fun c320 => absurd c320 (by decide))
  refine Ev.aload_n rfl rfl ?_
  refine Ev.xV0u rfl rfl m0 rfl rfl (by decide) ⟨(Nat.le_refl _), (Nat.le_refl _)⟩ (m_endsL_ok m0 m_all ht hA0 hst hok) (fun τ903 f9 q9 => ?_)
  obtain ⟨g903, A903, m0, m_all, hst⟩ := q9
  have m_read := frm.cell f9 m_read (by omega)
  have m_has := frm.cell f9 m_has (by omega)
  have fr := fr.step f9 (by omega) (by omega)
  refine Ev.ret rfl rfl (Nat.le_refl _) (Nat.le_refl _) ?_
  have hls : lstS 8 S s1 (tS0 U n (Re s)) = s1 := by
    unfold lstS
    exact if_neg (by omega)
  have hX : lnX U n 8 S s = s2 := by
    unfold lnX lnS lw1
    rw [← hs1, hls]
    show chn U n 8 S.1 s1 1 = s2
    rw [hs2]
    rfl
  have hN : lnN U n 8 S s = nus U n 8 S.1 s1 := by
    unfold lnN lnS lw1
    rw [← hs1, hls]
  rw [← hQ, hX, hN]
  refine ⟨rfl, fr, _, _, _, _, m0, m_all, m_read, m_has, hst, ?_, ?_⟩
  · exact (hSF.mono (Nat.le_succ b)).put (by omega)
  · intro hw9 hf9
    rw [hs2] at hw9 hf9
    obtain ⟨w2, k2, f2, g2, -⟩ := nst_f0 hw9 hf9
    have hm := hrd (hf1.symm.trans f2)
    have u2 : v2 = tV U n (Re s1) := by rw [hv2, rvl_ok w2 k2 g2]
    have n0 : nus U n 8 S.1 s1 0 = v2 := u2.symm
    show mS _ 0 (S_ar S 9 (upd (S.2.2 9) 4 (nI (nus U n 8 S.1 s1 0))))
    rw [n0]
    exact mS_9 (j := 4) hm hn16 hn5 (by omega)
theorem m_schL9_ok (m0 : σ.2 y = some (.inr (.inr (10, mo y g)))) (m_all : σ.2 (y + 1) = some (.inl (0, 4500, A))) {rd : Nat → Int32} (m_read : σ.2 (y + 3) = some (.inl (0, 120, rd))) (ht : txt U n) (hA0 : ∀ p, p < n → A0 (10 + p) = nI (U p)) (hst : MSt0 U n A0 A g s) (hok : Rok U n s) (hw : Rw s = false) (hk : tK U n (Re s) = 3) (hW : tW U n (Re s) = 10) (hwS : wS S) {b : Nat} (hb : b ≤ 600) (hSF : SF b rd) (hrd : Rf s = 0 → mS rd 0 S) : RetX Γ m_M_schoolLine [.ref y] σ y (y + 4) none (fun τ => ∃ (g1 A1 rd1 : Nat → Int32) (ab1 : Bool), τ.2 y = some (.inr (.inr (10, mo y g1))) ∧ τ.2 (y + 1) = some (.inl (0, 4500, A1)) ∧ τ.2 (y + 3) = some (.inl (0, 120, rd1)) ∧ τ.2 (y + 2) = σ.2 (y + 2) ∧ MSt U n A0 A1 g1 (rel U n (lnX U n 9 S s)) ab1 ∧ SF (b + 1) rd1 ∧ (Rw (lnX U n 9 S s) = false → Rf (lnX U n 9 S s) = 0 → mS rd1 0 (LnF 9 (lnN U n 9 S s) S))) := by
  have hn6 := ht.1
  have hn16 := hwS.1
  have hn5 := hwS.2.1
  have h600 := tS0_le ht hok.1
  obtain ⟨⟨L, hL, hLb⟩, ⟨tc, htc, htb⟩, hpt, ⟨ls, hls, hls1, hls2⟩⟩ := id hSF
  have hLS : Rf s = 0 → L = S.1 := fun f => nI_injL (by omega) (by omega) (hL.symm.trans (hrd f).1)
  unfold RetX
  generalize hQ : ((fun (r0 : Option Value) (τ : ex_S) => r0 = none ∧ frm σ τ y (y + 4) ∧ (fun τ : ex_S => ∃ (g1 A1 rd1 : Nat → Int32) (ab1 : Bool), τ.2 y = some (.inr (.inr (10, mo y g1))) ∧ τ.2 (y + 1) = some (.inl (0, 4500, A1)) ∧ τ.2 (y + 3) = some (.inl (0, 120, rd1)) ∧ τ.2 (y + 2) = σ.2 (y + 2) ∧ MSt U n A0 A1 g1 (rel U n (lnX U n 9 S s)) ab1 ∧ SF (b + 1) rd1 ∧ (Rw (lnX U n 9 S s) = false → Rf (lnX U n 9 S s) = 0 → mS rd1 0 (LnF 9 (lnN U n 9 S s) S))) τ)) = Q
  refine Ret.start pm_182 rfl ?_
  have fr : frm σ σ y (y + 4) := frm.rf
  have m_has : σ.2 (y + 2) = σ.2 (y + 2) := rfl
  refine Ev.aload_n rfl rfl ?_
  refine Ev.getf rfl rfl m0 rfl ?_
  rw [hst.2.2.2.1.2.1]
  refine Ev.istore_n rfl rfl rfl ?_
  refine Ev.aload_n rfl rfl ?_
  refine Ev.iconst (v := 1) rfl (by decide) ?_
  refine Ev.bipush (v := 15) rfl (by decide) ?_
  refine Ev.xV2 rfl rfl m0 rfl rfl (by decide) ⟨(Nat.le_refl _), (Nat.le_refl _)⟩ (m_takes0_y (fi := 1) (la := 15) m0 m_all ht hA0 hst hok hw (by decide) ⟨hk, by rw [hW]; decide, by rw [hW]; decide⟩) (fun τ901 f9 q9 => ?_)
  obtain ⟨g901, A901, m0, m_all, hst⟩ := q9
  have m_read := frm.cell f9 m_read (by omega)
  have m_has := frm.cell f9 m_has (by omega)
  have fr := fr.step f9 (by omega) (by omega)
  rw [show nI (tW U n (Re s)) = (10 : Int32) from by rw [hW]; rfl]
  obtain ⟨s1, hs1⟩ : ∃ q : Rs, q = (false, tE U n (Re s), Rf s, Rp s) := ⟨_, rfl⟩
  rw [← hs1] at hst
  have hw1 : Rw s1 = false := by rw [hs1]; rfl
  have he1 : Re s1 = tE U n (Re s) := by rw [hs1]; rfl
  have hf1 : Rf s1 = Rf s := by rw [hs1]; rfl
  have hp1 : Rp s1 = Rp s := by rw [hs1]; rfl
  have hok0 := hok
  have hok : Rok U n s1 := by rw [hs1]; exact lw1_ok ht hok (by omega) hw
  have ha0 : tS0 U n (Re s) < tS0 U n (Re s1) := by rw [he1]; exact tE_st ht hok0.1 (by omega)
  have hpa : Rw s1 = false → ¬ Rf s1 = 0 → ∃ q, Rp s1 = nI q ∧ q < tS0 U n (Re s) := fun _ c => by
    rw [hp1]
    exact hok0.2.2 hw (by rw [← hf1]; exact c)
  refine Ev.istore_n rfl rfl rfl ?_
  refine Ev.iload_n rfl rfl ?_
  refine Ev.iconst (v := 1) rfl (by decide) ?_
  refine Ev.jne (tgt := 23) rfl (by decide) (fun c15 => ?_) (fun c15 => absurd c15 (by decide))
  refine Ev.iload_n rfl rfl ?_
  refine Ev.iconst (v := 2) rfl (by decide) ?_
  refine Ev.jne (tgt := 32) rfl (by decide) (fun c25 => ?_) (fun c25 => absurd c25 (by decide))
  refine Ev.iload_n rfl rfl ?_
  refine Ev.iconst (v := 3) rfl (by decide) ?_
  refine Ev.jne (tgt := 91) rfl (by decide) (fun c34 => ?_) (fun c34 => absurd c34 (by decide))
  refine Ev.iload_n rfl rfl ?_
  refine Ev.iconst (v := 4) rfl (by decide) ?_
  refine Ev.jne (tgt := 101) rfl (by decide) (fun c93 => ?_) (fun c93 => absurd c93 (by decide))
  refine Ev.iload_n rfl rfl ?_
  refine Ev.iconst (v := 5) rfl (by decide) ?_
  refine Ev.jeq (tgt := 112) rfl (by decide) (fun c103 => absurd c103 (by decide)) (fun c103 => ?_)
  refine Ev.iload_n rfl rfl ?_
  refine Ev.bipush (v := 6) rfl (by decide) ?_
  refine Ev.jne (tgt := 126) rfl (by decide) (fun c109 => ?_) (fun c109 => absurd c109 (by decide))
  refine Ev.iload_n rfl rfl ?_
  refine Ev.bipush (v := 7) rfl (by decide) ?_
  refine Ev.jne (tgt := 158) rfl (by decide) (fun c129 => ?_) (fun c129 => absurd c129 (by decide))
  refine Ev.iload_n rfl rfl ?_
  refine Ev.bipush (v := 8) rfl (by decide) ?_
  refine Ev.jne (tgt := 195) rfl (by decide) (fun c161 => ?_) (fun c161 => absurd c161 (by decide))
  refine Ev.iload_n rfl rfl ?_
  refine Ev.bipush (v := 9) rfl (by decide) ?_
  refine Ev.jne (tgt := 215) rfl (by decide) (fun c198 => ?_) (fun c198 => absurd c198 (by decide))
  refine Ev.iload_n rfl rfl ?_
  refine Ev.bipush (v := 10) rfl (by decide) ?_
  refine Ev.jne (tgt := 236) rfl (by decide) (fun c218 => absurd (by decide) c218) (fun c218 => ?_)
  refine Ev.aload_n rfl rfl ?_
  refine Ev.getf rfl rfl m0 rfl ?_
  refine Ev.bipush (v := 7) rfl (by decide) ?_
  refine Ev.aload_n rfl rfl ?_
  refine Ev.iconst (v := 0) rfl (by decide) ?_
  refine Ev.sipush (v := 999) rfl (by decide) ?_
  refine Ev.xV2 rfl rfl m0 rfl rfl (by decide) ⟨(Nat.le_refl _), (Nat.le_refl _)⟩ (m_numb_ok m0 m_all ht hA0 hst hok (lo := 0) (G := fun v => decide (0 ≤ v) && decide (v ≤ 999)) (K_in_G ⟨by decide, by decide⟩)) (fun τ902 f9 q9 => ?_)
  obtain ⟨g902, A902, m0, m_all, hst⟩ := q9
  have m_read := frm.cell f9 m_read (by omega)
  have m_has := frm.cell f9 m_has (by omega)
  have fr := fr.step f9 (by omega) (by omega)
  obtain ⟨s2, hs2⟩ : ∃ q, q = nst U n ((fun v => decide (0 ≤ v) && decide (v ≤ 999)) (tV U n (Re s1))) s1 := ⟨_, rfl⟩
  obtain ⟨ab2, hab2⟩ : ∃ q, q = rab U n (fun v => decide (0 ≤ v) && decide (v ≤ 999)) true s1 := ⟨_, rfl⟩
  obtain ⟨v2, hv2⟩ : ∃ q, q = rvl U n 0 (fun v => decide (0 ≤ v) && decide (v ≤ 999)) s1 := ⟨_, rfl⟩
  rw [← hs2, ← hab2] at hst
  rw [← hv2]
  have hok : Rok U n s2 := by
    rw [hs2]
    exact nst_ok ht hok
  have hr2 := rvl_le (U := U) (n := n) (lo := 0) (hi := 999) (s := s1) (by decide)
  rw [← hv2] at hr2
  refine Ev.iastE (k := 7) rfl m_read (rfl : (7 : Int32) = nI 7) ⟨(by omega), by decide⟩ (fun τ1 f1 m_read => ?_)
  have m0 := frm.cell f1 m0 (by omega)
  have m_all := frm.cell f1 m_all (by omega)
  have m_has := frm.cell f1 m_has (by omega)
  have fr := fr.step f1 (by omega) (by omega)
  refine Ev.iload_n rfl rfl ?_
  refine Ev.bipush (v := 11) rfl (by decide) ?_
  refine Ev.jne (tgt := 257) rfl (by decide) (fun c239 => ?_) (fun c239 => absurd c239 (by decide))
  refine Ev.iload_n rfl rfl ?_
  refine Ev.bipush (v := 12) rfl (by decide) ?_
  refine Ev.jne (tgt := 277) rfl (by decide) (fun c260 => ?_) (fun c260 => absurd c260 (by decide))
  refine Ev.iload_n rfl rfl ?_
  refine Ev.bipush (v := 13) rfl (by decide) ?_
  refine Ev.jne (tgt := 297) rfl (by decide) (fun c280 => ?_) (fun c280 => absurd c280 (by decide))
  refine Ev.iload_n rfl rfl ?_
  refine Ev.bipush (v := 14) rfl (by decide) ?_
  refine Ev.jne (tgt := 317) rfl (by decide) (fun c300 => ?_) (fun c300 => absurd c300 (by decide))
  refine Ev.iload_n rfl rfl ?_
  refine Ev.bipush (v := 15) rfl (by decide) ?_
  refine Ev.jne (tgt := 338) rfl (by decide) (fun c320 => ?_) (fun c320 => absurd c320 (by decide))
  refine Ev.aload_n rfl rfl ?_
  refine Ev.xV0u rfl rfl m0 rfl rfl (by decide) ⟨(Nat.le_refl _), (Nat.le_refl _)⟩ (m_endsL_ok m0 m_all ht hA0 hst hok) (fun τ903 f9 q9 => ?_)
  obtain ⟨g903, A903, m0, m_all, hst⟩ := q9
  have m_read := frm.cell f9 m_read (by omega)
  have m_has := frm.cell f9 m_has (by omega)
  have fr := fr.step f9 (by omega) (by omega)
  refine Ev.ret rfl rfl (Nat.le_refl _) (Nat.le_refl _) ?_
  have hls : lstS 9 S s1 (tS0 U n (Re s)) = s1 := by
    unfold lstS
    exact if_neg (by omega)
  have hX : lnX U n 9 S s = s2 := by
    unfold lnX lnS lw1
    rw [← hs1, hls]
    show chn U n 9 S.1 s1 1 = s2
    rw [hs2]
    rfl
  have hN : lnN U n 9 S s = nus U n 9 S.1 s1 := by
    unfold lnN lnS lw1
    rw [← hs1, hls]
  rw [← hQ, hX, hN]
  refine ⟨rfl, fr, _, _, _, _, m0, m_all, m_read, m_has, hst, ?_, ?_⟩
  · exact (hSF.mono (Nat.le_succ b)).put (by omega)
  · intro hw9 hf9
    rw [hs2] at hw9 hf9
    obtain ⟨w2, k2, f2, g2, -⟩ := nst_f0 hw9 hf9
    have hm := hrd (hf1.symm.trans f2)
    have u2 : v2 = tV U n (Re s1) := by rw [hv2, rvl_ok w2 k2 g2]
    have n0 : nus U n 9 S.1 s1 0 = v2 := u2.symm
    show mS _ 0 (S_ar S 9 (upd (S.2.2 9) 5 (nI (nus U n 9 S.1 s1 0))))
    rw [n0]
    exact mS_9 (j := 5) hm hn16 hn5 (by omega)
theorem m_schL10_ok (m0 : σ.2 y = some (.inr (.inr (10, mo y g)))) (m_all : σ.2 (y + 1) = some (.inl (0, 4500, A))) {rd : Nat → Int32} (m_read : σ.2 (y + 3) = some (.inl (0, 120, rd))) (ht : txt U n) (hA0 : ∀ p, p < n → A0 (10 + p) = nI (U p)) (hst : MSt0 U n A0 A g s) (hok : Rok U n s) (hw : Rw s = false) (hk : tK U n (Re s) = 3) (hW : tW U n (Re s) = 11) (hwS : wS S) {b : Nat} (hb : b ≤ 600) (hSF : SF b rd) (hrd : Rf s = 0 → mS rd 0 S) : RetX Γ m_M_schoolLine [.ref y] σ y (y + 4) none (fun τ => ∃ (g1 A1 rd1 : Nat → Int32) (ab1 : Bool), τ.2 y = some (.inr (.inr (10, mo y g1))) ∧ τ.2 (y + 1) = some (.inl (0, 4500, A1)) ∧ τ.2 (y + 3) = some (.inl (0, 120, rd1)) ∧ τ.2 (y + 2) = σ.2 (y + 2) ∧ MSt U n A0 A1 g1 (rel U n (lnX U n 10 S s)) ab1 ∧ SF (b + 1) rd1 ∧ (Rw (lnX U n 10 S s) = false → Rf (lnX U n 10 S s) = 0 → mS rd1 0 (LnF 10 (lnN U n 10 S s) S))) := by
  have hn6 := ht.1
  have hn16 := hwS.1
  have hn5 := hwS.2.1
  have h600 := tS0_le ht hok.1
  obtain ⟨⟨L, hL, hLb⟩, ⟨tc, htc, htb⟩, hpt, ⟨ls, hls, hls1, hls2⟩⟩ := id hSF
  have hLS : Rf s = 0 → L = S.1 := fun f => nI_injL (by omega) (by omega) (hL.symm.trans (hrd f).1)
  unfold RetX
  generalize hQ : ((fun (r0 : Option Value) (τ : ex_S) => r0 = none ∧ frm σ τ y (y + 4) ∧ (fun τ : ex_S => ∃ (g1 A1 rd1 : Nat → Int32) (ab1 : Bool), τ.2 y = some (.inr (.inr (10, mo y g1))) ∧ τ.2 (y + 1) = some (.inl (0, 4500, A1)) ∧ τ.2 (y + 3) = some (.inl (0, 120, rd1)) ∧ τ.2 (y + 2) = σ.2 (y + 2) ∧ MSt U n A0 A1 g1 (rel U n (lnX U n 10 S s)) ab1 ∧ SF (b + 1) rd1 ∧ (Rw (lnX U n 10 S s) = false → Rf (lnX U n 10 S s) = 0 → mS rd1 0 (LnF 10 (lnN U n 10 S s) S))) τ)) = Q
  refine Ret.start pm_182 rfl ?_
  have fr : frm σ σ y (y + 4) := frm.rf
  have m_has : σ.2 (y + 2) = σ.2 (y + 2) := rfl
  refine Ev.aload_n rfl rfl ?_
  refine Ev.getf rfl rfl m0 rfl ?_
  rw [hst.2.2.2.1.2.1]
  refine Ev.istore_n rfl rfl rfl ?_
  refine Ev.aload_n rfl rfl ?_
  refine Ev.iconst (v := 1) rfl (by decide) ?_
  refine Ev.bipush (v := 15) rfl (by decide) ?_
  refine Ev.xV2 rfl rfl m0 rfl rfl (by decide) ⟨(Nat.le_refl _), (Nat.le_refl _)⟩ (m_takes0_y (fi := 1) (la := 15) m0 m_all ht hA0 hst hok hw (by decide) ⟨hk, by rw [hW]; decide, by rw [hW]; decide⟩) (fun τ901 f9 q9 => ?_)
  obtain ⟨g901, A901, m0, m_all, hst⟩ := q9
  have m_read := frm.cell f9 m_read (by omega)
  have m_has := frm.cell f9 m_has (by omega)
  have fr := fr.step f9 (by omega) (by omega)
  rw [show nI (tW U n (Re s)) = (11 : Int32) from by rw [hW]; rfl]
  obtain ⟨s1, hs1⟩ : ∃ q : Rs, q = (false, tE U n (Re s), Rf s, Rp s) := ⟨_, rfl⟩
  rw [← hs1] at hst
  have hw1 : Rw s1 = false := by rw [hs1]; rfl
  have he1 : Re s1 = tE U n (Re s) := by rw [hs1]; rfl
  have hf1 : Rf s1 = Rf s := by rw [hs1]; rfl
  have hp1 : Rp s1 = Rp s := by rw [hs1]; rfl
  have hok0 := hok
  have hok : Rok U n s1 := by rw [hs1]; exact lw1_ok ht hok (by omega) hw
  have ha0 : tS0 U n (Re s) < tS0 U n (Re s1) := by rw [he1]; exact tE_st ht hok0.1 (by omega)
  have hpa : Rw s1 = false → ¬ Rf s1 = 0 → ∃ q, Rp s1 = nI q ∧ q < tS0 U n (Re s) := fun _ c => by
    rw [hp1]
    exact hok0.2.2 hw (by rw [← hf1]; exact c)
  refine Ev.istore_n rfl rfl rfl ?_
  refine Ev.iload_n rfl rfl ?_
  refine Ev.iconst (v := 1) rfl (by decide) ?_
  refine Ev.jne (tgt := 23) rfl (by decide) (fun c15 => ?_) (fun c15 => absurd c15 (by decide))
  refine Ev.iload_n rfl rfl ?_
  refine Ev.iconst (v := 2) rfl (by decide) ?_
  refine Ev.jne (tgt := 32) rfl (by decide) (fun c25 => ?_) (fun c25 => absurd c25 (by decide))
  refine Ev.iload_n rfl rfl ?_
  refine Ev.iconst (v := 3) rfl (by decide) ?_
  refine Ev.jne (tgt := 91) rfl (by decide) (fun c34 => ?_) (fun c34 => absurd c34 (by decide))
  refine Ev.iload_n rfl rfl ?_
  refine Ev.iconst (v := 4) rfl (by decide) ?_
  refine Ev.jne (tgt := 101) rfl (by decide) (fun c93 => ?_) (fun c93 => absurd c93 (by decide))
  refine Ev.iload_n rfl rfl ?_
  refine Ev.iconst (v := 5) rfl (by decide) ?_
  refine Ev.jeq (tgt := 112) rfl (by decide) (fun c103 => absurd c103 (by decide)) (fun c103 => ?_)
  refine Ev.iload_n rfl rfl ?_
  refine Ev.bipush (v := 6) rfl (by decide) ?_
  refine Ev.jne (tgt := 126) rfl (by decide) (fun c109 => ?_) (fun c109 => absurd c109 (by decide))
  refine Ev.iload_n rfl rfl ?_
  refine Ev.bipush (v := 7) rfl (by decide) ?_
  refine Ev.jne (tgt := 158) rfl (by decide) (fun c129 => ?_) (fun c129 => absurd c129 (by decide))
  refine Ev.iload_n rfl rfl ?_
  refine Ev.bipush (v := 8) rfl (by decide) ?_
  refine Ev.jne (tgt := 195) rfl (by decide) (fun c161 => ?_) (fun c161 => absurd c161 (by decide))
  refine Ev.iload_n rfl rfl ?_
  refine Ev.bipush (v := 9) rfl (by decide) ?_
  refine Ev.jne (tgt := 215) rfl (by decide) (fun c198 => ?_) (fun c198 => absurd c198 (by decide))
  refine Ev.iload_n rfl rfl ?_
  refine Ev.bipush (v := 10) rfl (by decide) ?_
  refine Ev.jne (tgt := 236) rfl (by decide) (fun c218 => ?_) (fun c218 => absurd c218 (by decide))
  refine Ev.iload_n rfl rfl ?_
  refine Ev.bipush (v := 11) rfl (by decide) ?_
  refine Ev.jne (tgt := 257) rfl (by decide) (fun c239 => absurd (by decide) c239) (fun c239 => ?_)
  refine Ev.aload_n rfl rfl ?_
  refine Ev.getf rfl rfl m0 rfl ?_
  refine Ev.bipush (v := 8) rfl (by decide) ?_
  refine Ev.aload_n rfl rfl ?_
  refine Ev.iconst (v := 0) rfl (by decide) ?_
  refine Ev.sipush (v := 999) rfl (by decide) ?_
  refine Ev.xV2 rfl rfl m0 rfl rfl (by decide) ⟨(Nat.le_refl _), (Nat.le_refl _)⟩ (m_numb_ok m0 m_all ht hA0 hst hok (lo := 0) (G := fun v => decide (0 ≤ v) && decide (v ≤ 999)) (K_in_G ⟨by decide, by decide⟩)) (fun τ902 f9 q9 => ?_)
  obtain ⟨g902, A902, m0, m_all, hst⟩ := q9
  have m_read := frm.cell f9 m_read (by omega)
  have m_has := frm.cell f9 m_has (by omega)
  have fr := fr.step f9 (by omega) (by omega)
  obtain ⟨s2, hs2⟩ : ∃ q, q = nst U n ((fun v => decide (0 ≤ v) && decide (v ≤ 999)) (tV U n (Re s1))) s1 := ⟨_, rfl⟩
  obtain ⟨ab2, hab2⟩ : ∃ q, q = rab U n (fun v => decide (0 ≤ v) && decide (v ≤ 999)) true s1 := ⟨_, rfl⟩
  obtain ⟨v2, hv2⟩ : ∃ q, q = rvl U n 0 (fun v => decide (0 ≤ v) && decide (v ≤ 999)) s1 := ⟨_, rfl⟩
  rw [← hs2, ← hab2] at hst
  rw [← hv2]
  have hok : Rok U n s2 := by
    rw [hs2]
    exact nst_ok ht hok
  have hr2 := rvl_le (U := U) (n := n) (lo := 0) (hi := 999) (s := s1) (by decide)
  rw [← hv2] at hr2
  refine Ev.iastE (k := 8) rfl m_read (rfl : (8 : Int32) = nI 8) ⟨(by omega), by decide⟩ (fun τ1 f1 m_read => ?_)
  have m0 := frm.cell f1 m0 (by omega)
  have m_all := frm.cell f1 m_all (by omega)
  have m_has := frm.cell f1 m_has (by omega)
  have fr := fr.step f1 (by omega) (by omega)
  refine Ev.iload_n rfl rfl ?_
  refine Ev.bipush (v := 12) rfl (by decide) ?_
  refine Ev.jne (tgt := 277) rfl (by decide) (fun c260 => ?_) (fun c260 => absurd c260 (by decide))
  refine Ev.iload_n rfl rfl ?_
  refine Ev.bipush (v := 13) rfl (by decide) ?_
  refine Ev.jne (tgt := 297) rfl (by decide) (fun c280 => ?_) (fun c280 => absurd c280 (by decide))
  refine Ev.iload_n rfl rfl ?_
  refine Ev.bipush (v := 14) rfl (by decide) ?_
  refine Ev.jne (tgt := 317) rfl (by decide) (fun c300 => ?_) (fun c300 => absurd c300 (by decide))
  refine Ev.iload_n rfl rfl ?_
  refine Ev.bipush (v := 15) rfl (by decide) ?_
  refine Ev.jne (tgt := 338) rfl (by decide) (fun c320 => ?_) (fun c320 => absurd c320 (by decide))
  refine Ev.aload_n rfl rfl ?_
  refine Ev.xV0u rfl rfl m0 rfl rfl (by decide) ⟨(Nat.le_refl _), (Nat.le_refl _)⟩ (m_endsL_ok m0 m_all ht hA0 hst hok) (fun τ903 f9 q9 => ?_)
  obtain ⟨g903, A903, m0, m_all, hst⟩ := q9
  have m_read := frm.cell f9 m_read (by omega)
  have m_has := frm.cell f9 m_has (by omega)
  have fr := fr.step f9 (by omega) (by omega)
  refine Ev.ret rfl rfl (Nat.le_refl _) (Nat.le_refl _) ?_
  have hls : lstS 10 S s1 (tS0 U n (Re s)) = s1 := by
    unfold lstS
    exact if_neg (by omega)
  have hX : lnX U n 10 S s = s2 := by
    unfold lnX lnS lw1
    rw [← hs1, hls]
    show chn U n 10 S.1 s1 1 = s2
    rw [hs2]
    rfl
  have hN : lnN U n 10 S s = nus U n 10 S.1 s1 := by
    unfold lnN lnS lw1
    rw [← hs1, hls]
  rw [← hQ, hX, hN]
  refine ⟨rfl, fr, _, _, _, _, m0, m_all, m_read, m_has, hst, ?_, ?_⟩
  · exact (hSF.mono (Nat.le_succ b)).put (by omega)
  · intro hw9 hf9
    rw [hs2] at hw9 hf9
    obtain ⟨w2, k2, f2, g2, -⟩ := nst_f0 hw9 hf9
    have hm := hrd (hf1.symm.trans f2)
    have u2 : v2 = tV U n (Re s1) := by rw [hv2, rvl_ok w2 k2 g2]
    have n0 : nus U n 10 S.1 s1 0 = v2 := u2.symm
    show mS _ 0 (S_ar S 9 (upd (S.2.2 9) 6 (nI (nus U n 10 S.1 s1 0))))
    rw [n0]
    exact mS_9 (j := 6) hm hn16 hn5 (by omega)
theorem m_schL11_ok (m0 : σ.2 y = some (.inr (.inr (10, mo y g)))) (m_all : σ.2 (y + 1) = some (.inl (0, 4500, A))) {rd : Nat → Int32} (m_read : σ.2 (y + 3) = some (.inl (0, 120, rd))) (ht : txt U n) (hA0 : ∀ p, p < n → A0 (10 + p) = nI (U p)) (hst : MSt0 U n A0 A g s) (hok : Rok U n s) (hw : Rw s = false) (hk : tK U n (Re s) = 3) (hW : tW U n (Re s) = 12) (hwS : wS S) {b : Nat} (hb : b ≤ 600) (hSF : SF b rd) (hrd : Rf s = 0 → mS rd 0 S) : RetX Γ m_M_schoolLine [.ref y] σ y (y + 4) none (fun τ => ∃ (g1 A1 rd1 : Nat → Int32) (ab1 : Bool), τ.2 y = some (.inr (.inr (10, mo y g1))) ∧ τ.2 (y + 1) = some (.inl (0, 4500, A1)) ∧ τ.2 (y + 3) = some (.inl (0, 120, rd1)) ∧ τ.2 (y + 2) = σ.2 (y + 2) ∧ MSt U n A0 A1 g1 (rel U n (lnX U n 11 S s)) ab1 ∧ SF (b + 1) rd1 ∧ (Rw (lnX U n 11 S s) = false → Rf (lnX U n 11 S s) = 0 → mS rd1 0 (LnF 11 (lnN U n 11 S s) S))) := by
  have hn6 := ht.1
  have hn16 := hwS.1
  have hn5 := hwS.2.1
  have h600 := tS0_le ht hok.1
  obtain ⟨⟨L, hL, hLb⟩, ⟨tc, htc, htb⟩, hpt, ⟨ls, hls, hls1, hls2⟩⟩ := id hSF
  have hLS : Rf s = 0 → L = S.1 := fun f => nI_injL (by omega) (by omega) (hL.symm.trans (hrd f).1)
  unfold RetX
  generalize hQ : ((fun (r0 : Option Value) (τ : ex_S) => r0 = none ∧ frm σ τ y (y + 4) ∧ (fun τ : ex_S => ∃ (g1 A1 rd1 : Nat → Int32) (ab1 : Bool), τ.2 y = some (.inr (.inr (10, mo y g1))) ∧ τ.2 (y + 1) = some (.inl (0, 4500, A1)) ∧ τ.2 (y + 3) = some (.inl (0, 120, rd1)) ∧ τ.2 (y + 2) = σ.2 (y + 2) ∧ MSt U n A0 A1 g1 (rel U n (lnX U n 11 S s)) ab1 ∧ SF (b + 1) rd1 ∧ (Rw (lnX U n 11 S s) = false → Rf (lnX U n 11 S s) = 0 → mS rd1 0 (LnF 11 (lnN U n 11 S s) S))) τ)) = Q
  refine Ret.start pm_182 rfl ?_
  have fr : frm σ σ y (y + 4) := frm.rf
  have m_has : σ.2 (y + 2) = σ.2 (y + 2) := rfl
  refine Ev.aload_n rfl rfl ?_
  refine Ev.getf rfl rfl m0 rfl ?_
  rw [hst.2.2.2.1.2.1]
  refine Ev.istore_n rfl rfl rfl ?_
  refine Ev.aload_n rfl rfl ?_
  refine Ev.iconst (v := 1) rfl (by decide) ?_
  refine Ev.bipush (v := 15) rfl (by decide) ?_
  refine Ev.xV2 rfl rfl m0 rfl rfl (by decide) ⟨(Nat.le_refl _), (Nat.le_refl _)⟩ (m_takes0_y (fi := 1) (la := 15) m0 m_all ht hA0 hst hok hw (by decide) ⟨hk, by rw [hW]; decide, by rw [hW]; decide⟩) (fun τ901 f9 q9 => ?_)
  obtain ⟨g901, A901, m0, m_all, hst⟩ := q9
  have m_read := frm.cell f9 m_read (by omega)
  have m_has := frm.cell f9 m_has (by omega)
  have fr := fr.step f9 (by omega) (by omega)
  rw [show nI (tW U n (Re s)) = (12 : Int32) from by rw [hW]; rfl]
  obtain ⟨s1, hs1⟩ : ∃ q : Rs, q = (false, tE U n (Re s), Rf s, Rp s) := ⟨_, rfl⟩
  rw [← hs1] at hst
  have hw1 : Rw s1 = false := by rw [hs1]; rfl
  have he1 : Re s1 = tE U n (Re s) := by rw [hs1]; rfl
  have hf1 : Rf s1 = Rf s := by rw [hs1]; rfl
  have hp1 : Rp s1 = Rp s := by rw [hs1]; rfl
  have hok0 := hok
  have hok : Rok U n s1 := by rw [hs1]; exact lw1_ok ht hok (by omega) hw
  have ha0 : tS0 U n (Re s) < tS0 U n (Re s1) := by rw [he1]; exact tE_st ht hok0.1 (by omega)
  have hpa : Rw s1 = false → ¬ Rf s1 = 0 → ∃ q, Rp s1 = nI q ∧ q < tS0 U n (Re s) := fun _ c => by
    rw [hp1]
    exact hok0.2.2 hw (by rw [← hf1]; exact c)
  refine Ev.istore_n rfl rfl rfl ?_
  refine Ev.iload_n rfl rfl ?_
  refine Ev.iconst (v := 1) rfl (by decide) ?_
  refine Ev.jne (tgt := 23) rfl (by decide) (fun c15 => ?_) (fun c15 => absurd c15 (by decide))
  refine Ev.iload_n rfl rfl ?_
  refine Ev.iconst (v := 2) rfl (by decide) ?_
  refine Ev.jne (tgt := 32) rfl (by decide) (fun c25 => ?_) (fun c25 => absurd c25 (by decide))
  refine Ev.iload_n rfl rfl ?_
  refine Ev.iconst (v := 3) rfl (by decide) ?_
  refine Ev.jne (tgt := 91) rfl (by decide) (fun c34 => ?_) (fun c34 => absurd c34 (by decide))
  refine Ev.iload_n rfl rfl ?_
  refine Ev.iconst (v := 4) rfl (by decide) ?_
  refine Ev.jne (tgt := 101) rfl (by decide) (fun c93 => ?_) (fun c93 => absurd c93 (by decide))
  refine Ev.iload_n rfl rfl ?_
  refine Ev.iconst (v := 5) rfl (by decide) ?_
  refine Ev.jeq (tgt := 112) rfl (by decide) (fun c103 => absurd c103 (by decide)) (fun c103 => ?_)
  refine Ev.iload_n rfl rfl ?_
  refine Ev.bipush (v := 6) rfl (by decide) ?_
  refine Ev.jne (tgt := 126) rfl (by decide) (fun c109 => ?_) (fun c109 => absurd c109 (by decide))
  refine Ev.iload_n rfl rfl ?_
  refine Ev.bipush (v := 7) rfl (by decide) ?_
  refine Ev.jne (tgt := 158) rfl (by decide) (fun c129 => ?_) (fun c129 => absurd c129 (by decide))
  refine Ev.iload_n rfl rfl ?_
  refine Ev.bipush (v := 8) rfl (by decide) ?_
  refine Ev.jne (tgt := 195) rfl (by decide) (fun c161 => ?_) (fun c161 => absurd c161 (by decide))
  refine Ev.iload_n rfl rfl ?_
  refine Ev.bipush (v := 9) rfl (by decide) ?_
  refine Ev.jne (tgt := 215) rfl (by decide) (fun c198 => ?_) (fun c198 => absurd c198 (by decide))
  refine Ev.iload_n rfl rfl ?_
  refine Ev.bipush (v := 10) rfl (by decide) ?_
  refine Ev.jne (tgt := 236) rfl (by decide) (fun c218 => ?_) (fun c218 => absurd c218 (by decide))
  refine Ev.iload_n rfl rfl ?_
  refine Ev.bipush (v := 11) rfl (by decide) ?_
  refine Ev.jne (tgt := 257) rfl (by decide) (fun c239 => ?_) (fun c239 => absurd c239 (by decide))
  refine Ev.iload_n rfl rfl ?_
  refine Ev.bipush (v := 12) rfl (by decide) ?_
  refine Ev.jne (tgt := 277) rfl (by decide) (fun c260 => absurd (by decide) c260) (fun c260 => ?_)
  refine Ev.aload_n rfl rfl ?_
  refine Ev.getf rfl rfl m0 rfl ?_
  refine Ev.bipush (v := 9) rfl (by decide) ?_
  refine Ev.aload_n rfl rfl ?_
  refine Ev.iconst (v := 1) rfl (by decide) ?_
  refine Ev.bipush (v := 30) rfl (by decide) ?_
  refine Ev.xV2 rfl rfl m0 rfl rfl (by decide) ⟨(Nat.le_refl _), (Nat.le_refl _)⟩ (m_numb_ok m0 m_all ht hA0 hst hok (lo := 1) (G := fun v => decide (1 ≤ v) && decide (v ≤ 30)) (K_in_G ⟨by decide, by decide⟩)) (fun τ902 f9 q9 => ?_)
  obtain ⟨g902, A902, m0, m_all, hst⟩ := q9
  have m_read := frm.cell f9 m_read (by omega)
  have m_has := frm.cell f9 m_has (by omega)
  have fr := fr.step f9 (by omega) (by omega)
  obtain ⟨s2, hs2⟩ : ∃ q, q = nst U n ((fun v => decide (1 ≤ v) && decide (v ≤ 30)) (tV U n (Re s1))) s1 := ⟨_, rfl⟩
  obtain ⟨ab2, hab2⟩ : ∃ q, q = rab U n (fun v => decide (1 ≤ v) && decide (v ≤ 30)) true s1 := ⟨_, rfl⟩
  obtain ⟨v2, hv2⟩ : ∃ q, q = rvl U n 1 (fun v => decide (1 ≤ v) && decide (v ≤ 30)) s1 := ⟨_, rfl⟩
  rw [← hs2, ← hab2] at hst
  rw [← hv2]
  have hok : Rok U n s2 := by
    rw [hs2]
    exact nst_ok ht hok
  have hr2 := rvl_le (U := U) (n := n) (lo := 1) (hi := 30) (s := s1) (by decide)
  rw [← hv2] at hr2
  refine Ev.iastE (k := 9) rfl m_read (rfl : (9 : Int32) = nI 9) ⟨(by omega), by decide⟩ (fun τ1 f1 m_read => ?_)
  have m0 := frm.cell f1 m0 (by omega)
  have m_all := frm.cell f1 m_all (by omega)
  have m_has := frm.cell f1 m_has (by omega)
  have fr := fr.step f1 (by omega) (by omega)
  refine Ev.iload_n rfl rfl ?_
  refine Ev.bipush (v := 13) rfl (by decide) ?_
  refine Ev.jne (tgt := 297) rfl (by decide) (fun c280 => ?_) (fun c280 => absurd c280 (by decide))
  refine Ev.iload_n rfl rfl ?_
  refine Ev.bipush (v := 14) rfl (by decide) ?_
  refine Ev.jne (tgt := 317) rfl (by decide) (fun c300 => ?_) (fun c300 => absurd c300 (by decide))
  refine Ev.iload_n rfl rfl ?_
  refine Ev.bipush (v := 15) rfl (by decide) ?_
  refine Ev.jne (tgt := 338) rfl (by decide) (fun c320 => ?_) (fun c320 => absurd c320 (by decide))
  refine Ev.aload_n rfl rfl ?_
  refine Ev.xV0u rfl rfl m0 rfl rfl (by decide) ⟨(Nat.le_refl _), (Nat.le_refl _)⟩ (m_endsL_ok m0 m_all ht hA0 hst hok) (fun τ903 f9 q9 => ?_)
  obtain ⟨g903, A903, m0, m_all, hst⟩ := q9
  have m_read := frm.cell f9 m_read (by omega)
  have m_has := frm.cell f9 m_has (by omega)
  have fr := fr.step f9 (by omega) (by omega)
  refine Ev.ret rfl rfl (Nat.le_refl _) (Nat.le_refl _) ?_
  have hls : lstS 11 S s1 (tS0 U n (Re s)) = s1 := by
    unfold lstS
    exact if_neg (by omega)
  have hX : lnX U n 11 S s = s2 := by
    unfold lnX lnS lw1
    rw [← hs1, hls]
    show chn U n 11 S.1 s1 1 = s2
    rw [hs2]
    rfl
  have hN : lnN U n 11 S s = nus U n 11 S.1 s1 := by
    unfold lnN lnS lw1
    rw [← hs1, hls]
  rw [← hQ, hX, hN]
  refine ⟨rfl, fr, _, _, _, _, m0, m_all, m_read, m_has, hst, ?_, ?_⟩
  · exact (hSF.mono (Nat.le_succ b)).put (by omega)
  · intro hw9 hf9
    rw [hs2] at hw9 hf9
    obtain ⟨w2, k2, f2, g2, -⟩ := nst_f0 hw9 hf9
    have hm := hrd (hf1.symm.trans f2)
    have u2 : v2 = tV U n (Re s1) := by rw [hv2, rvl_ok w2 k2 g2]
    have n0 : nus U n 11 S.1 s1 0 = v2 := u2.symm
    show mS _ 0 (S_ar S 9 (upd (S.2.2 9) 7 (nI (nus U n 11 S.1 s1 0))))
    rw [n0]
    exact mS_9 (j := 7) hm hn16 hn5 (by omega)
theorem m_schL12_ok (m0 : σ.2 y = some (.inr (.inr (10, mo y g)))) (m_all : σ.2 (y + 1) = some (.inl (0, 4500, A))) {rd : Nat → Int32} (m_read : σ.2 (y + 3) = some (.inl (0, 120, rd))) (ht : txt U n) (hA0 : ∀ p, p < n → A0 (10 + p) = nI (U p)) (hst : MSt0 U n A0 A g s) (hok : Rok U n s) (hw : Rw s = false) (hk : tK U n (Re s) = 3) (hW : tW U n (Re s) = 13) (hwS : wS S) {b : Nat} (hb : b ≤ 600) (hSF : SF b rd) (hrd : Rf s = 0 → mS rd 0 S) : RetX Γ m_M_schoolLine [.ref y] σ y (y + 4) none (fun τ => ∃ (g1 A1 rd1 : Nat → Int32) (ab1 : Bool), τ.2 y = some (.inr (.inr (10, mo y g1))) ∧ τ.2 (y + 1) = some (.inl (0, 4500, A1)) ∧ τ.2 (y + 3) = some (.inl (0, 120, rd1)) ∧ τ.2 (y + 2) = σ.2 (y + 2) ∧ MSt U n A0 A1 g1 (rel U n (lnX U n 12 S s)) ab1 ∧ SF (b + 1) rd1 ∧ (Rw (lnX U n 12 S s) = false → Rf (lnX U n 12 S s) = 0 → mS rd1 0 (LnF 12 (lnN U n 12 S s) S))) := by
  have hn6 := ht.1
  have hn16 := hwS.1
  have hn5 := hwS.2.1
  have h600 := tS0_le ht hok.1
  obtain ⟨⟨L, hL, hLb⟩, ⟨tc, htc, htb⟩, hpt, ⟨ls, hls, hls1, hls2⟩⟩ := id hSF
  have hLS : Rf s = 0 → L = S.1 := fun f => nI_injL (by omega) (by omega) (hL.symm.trans (hrd f).1)
  unfold RetX
  generalize hQ : ((fun (r0 : Option Value) (τ : ex_S) => r0 = none ∧ frm σ τ y (y + 4) ∧ (fun τ : ex_S => ∃ (g1 A1 rd1 : Nat → Int32) (ab1 : Bool), τ.2 y = some (.inr (.inr (10, mo y g1))) ∧ τ.2 (y + 1) = some (.inl (0, 4500, A1)) ∧ τ.2 (y + 3) = some (.inl (0, 120, rd1)) ∧ τ.2 (y + 2) = σ.2 (y + 2) ∧ MSt U n A0 A1 g1 (rel U n (lnX U n 12 S s)) ab1 ∧ SF (b + 1) rd1 ∧ (Rw (lnX U n 12 S s) = false → Rf (lnX U n 12 S s) = 0 → mS rd1 0 (LnF 12 (lnN U n 12 S s) S))) τ)) = Q
  refine Ret.start pm_182 rfl ?_
  have fr : frm σ σ y (y + 4) := frm.rf
  have m_has : σ.2 (y + 2) = σ.2 (y + 2) := rfl
  refine Ev.aload_n rfl rfl ?_
  refine Ev.getf rfl rfl m0 rfl ?_
  rw [hst.2.2.2.1.2.1]
  refine Ev.istore_n rfl rfl rfl ?_
  refine Ev.aload_n rfl rfl ?_
  refine Ev.iconst (v := 1) rfl (by decide) ?_
  refine Ev.bipush (v := 15) rfl (by decide) ?_
  refine Ev.xV2 rfl rfl m0 rfl rfl (by decide) ⟨(Nat.le_refl _), (Nat.le_refl _)⟩ (m_takes0_y (fi := 1) (la := 15) m0 m_all ht hA0 hst hok hw (by decide) ⟨hk, by rw [hW]; decide, by rw [hW]; decide⟩) (fun τ901 f9 q9 => ?_)
  obtain ⟨g901, A901, m0, m_all, hst⟩ := q9
  have m_read := frm.cell f9 m_read (by omega)
  have m_has := frm.cell f9 m_has (by omega)
  have fr := fr.step f9 (by omega) (by omega)
  rw [show nI (tW U n (Re s)) = (13 : Int32) from by rw [hW]; rfl]
  obtain ⟨s1, hs1⟩ : ∃ q : Rs, q = (false, tE U n (Re s), Rf s, Rp s) := ⟨_, rfl⟩
  rw [← hs1] at hst
  have hw1 : Rw s1 = false := by rw [hs1]; rfl
  have he1 : Re s1 = tE U n (Re s) := by rw [hs1]; rfl
  have hf1 : Rf s1 = Rf s := by rw [hs1]; rfl
  have hp1 : Rp s1 = Rp s := by rw [hs1]; rfl
  have hok0 := hok
  have hok : Rok U n s1 := by rw [hs1]; exact lw1_ok ht hok (by omega) hw
  have ha0 : tS0 U n (Re s) < tS0 U n (Re s1) := by rw [he1]; exact tE_st ht hok0.1 (by omega)
  have hpa : Rw s1 = false → ¬ Rf s1 = 0 → ∃ q, Rp s1 = nI q ∧ q < tS0 U n (Re s) := fun _ c => by
    rw [hp1]
    exact hok0.2.2 hw (by rw [← hf1]; exact c)
  refine Ev.istore_n rfl rfl rfl ?_
  refine Ev.iload_n rfl rfl ?_
  refine Ev.iconst (v := 1) rfl (by decide) ?_
  refine Ev.jne (tgt := 23) rfl (by decide) (fun c15 => ?_) (fun c15 => absurd c15 (by decide))
  refine Ev.iload_n rfl rfl ?_
  refine Ev.iconst (v := 2) rfl (by decide) ?_
  refine Ev.jne (tgt := 32) rfl (by decide) (fun c25 => ?_) (fun c25 => absurd c25 (by decide))
  refine Ev.iload_n rfl rfl ?_
  refine Ev.iconst (v := 3) rfl (by decide) ?_
  refine Ev.jne (tgt := 91) rfl (by decide) (fun c34 => ?_) (fun c34 => absurd c34 (by decide))
  refine Ev.iload_n rfl rfl ?_
  refine Ev.iconst (v := 4) rfl (by decide) ?_
  refine Ev.jne (tgt := 101) rfl (by decide) (fun c93 => ?_) (fun c93 => absurd c93 (by decide))
  refine Ev.iload_n rfl rfl ?_
  refine Ev.iconst (v := 5) rfl (by decide) ?_
  refine Ev.jeq (tgt := 112) rfl (by decide) (fun c103 => absurd c103 (by decide)) (fun c103 => ?_)
  refine Ev.iload_n rfl rfl ?_
  refine Ev.bipush (v := 6) rfl (by decide) ?_
  refine Ev.jne (tgt := 126) rfl (by decide) (fun c109 => ?_) (fun c109 => absurd c109 (by decide))
  refine Ev.iload_n rfl rfl ?_
  refine Ev.bipush (v := 7) rfl (by decide) ?_
  refine Ev.jne (tgt := 158) rfl (by decide) (fun c129 => ?_) (fun c129 => absurd c129 (by decide))
  refine Ev.iload_n rfl rfl ?_
  refine Ev.bipush (v := 8) rfl (by decide) ?_
  refine Ev.jne (tgt := 195) rfl (by decide) (fun c161 => ?_) (fun c161 => absurd c161 (by decide))
  refine Ev.iload_n rfl rfl ?_
  refine Ev.bipush (v := 9) rfl (by decide) ?_
  refine Ev.jne (tgt := 215) rfl (by decide) (fun c198 => ?_) (fun c198 => absurd c198 (by decide))
  refine Ev.iload_n rfl rfl ?_
  refine Ev.bipush (v := 10) rfl (by decide) ?_
  refine Ev.jne (tgt := 236) rfl (by decide) (fun c218 => ?_) (fun c218 => absurd c218 (by decide))
  refine Ev.iload_n rfl rfl ?_
  refine Ev.bipush (v := 11) rfl (by decide) ?_
  refine Ev.jne (tgt := 257) rfl (by decide) (fun c239 => ?_) (fun c239 => absurd c239 (by decide))
  refine Ev.iload_n rfl rfl ?_
  refine Ev.bipush (v := 12) rfl (by decide) ?_
  refine Ev.jne (tgt := 277) rfl (by decide) (fun c260 => ?_) (fun c260 => absurd c260 (by decide))
  refine Ev.iload_n rfl rfl ?_
  refine Ev.bipush (v := 13) rfl (by decide) ?_
  refine Ev.jne (tgt := 297) rfl (by decide) (fun c280 => absurd (by decide) c280) (fun c280 => ?_)
  refine Ev.aload_n rfl rfl ?_
  refine Ev.getf rfl rfl m0 rfl ?_
  refine Ev.bipush (v := 10) rfl (by decide) ?_
  refine Ev.aload_n rfl rfl ?_
  refine Ev.iconst (v := 0) rfl (by decide) ?_
  refine Ev.bipush (v := 99) rfl (by decide) ?_
  refine Ev.xV2 rfl rfl m0 rfl rfl (by decide) ⟨(Nat.le_refl _), (Nat.le_refl _)⟩ (m_numb_ok m0 m_all ht hA0 hst hok (lo := 0) (G := fun v => decide (0 ≤ v) && decide (v ≤ 99)) (K_in_G ⟨by decide, by decide⟩)) (fun τ902 f9 q9 => ?_)
  obtain ⟨g902, A902, m0, m_all, hst⟩ := q9
  have m_read := frm.cell f9 m_read (by omega)
  have m_has := frm.cell f9 m_has (by omega)
  have fr := fr.step f9 (by omega) (by omega)
  obtain ⟨s2, hs2⟩ : ∃ q, q = nst U n ((fun v => decide (0 ≤ v) && decide (v ≤ 99)) (tV U n (Re s1))) s1 := ⟨_, rfl⟩
  obtain ⟨ab2, hab2⟩ : ∃ q, q = rab U n (fun v => decide (0 ≤ v) && decide (v ≤ 99)) true s1 := ⟨_, rfl⟩
  obtain ⟨v2, hv2⟩ : ∃ q, q = rvl U n 0 (fun v => decide (0 ≤ v) && decide (v ≤ 99)) s1 := ⟨_, rfl⟩
  rw [← hs2, ← hab2] at hst
  rw [← hv2]
  have hok : Rok U n s2 := by
    rw [hs2]
    exact nst_ok ht hok
  have hr2 := rvl_le (U := U) (n := n) (lo := 0) (hi := 99) (s := s1) (by decide)
  rw [← hv2] at hr2
  refine Ev.iastE (k := 10) rfl m_read (rfl : (10 : Int32) = nI 10) ⟨(by omega), by decide⟩ (fun τ1 f1 m_read => ?_)
  have m0 := frm.cell f1 m0 (by omega)
  have m_all := frm.cell f1 m_all (by omega)
  have m_has := frm.cell f1 m_has (by omega)
  have fr := fr.step f1 (by omega) (by omega)
  refine Ev.iload_n rfl rfl ?_
  refine Ev.bipush (v := 14) rfl (by decide) ?_
  refine Ev.jne (tgt := 317) rfl (by decide) (fun c300 => ?_) (fun c300 => absurd c300 (by decide))
  refine Ev.iload_n rfl rfl ?_
  refine Ev.bipush (v := 15) rfl (by decide) ?_
  refine Ev.jne (tgt := 338) rfl (by decide) (fun c320 => ?_) (fun c320 => absurd c320 (by decide))
  refine Ev.aload_n rfl rfl ?_
  refine Ev.xV0u rfl rfl m0 rfl rfl (by decide) ⟨(Nat.le_refl _), (Nat.le_refl _)⟩ (m_endsL_ok m0 m_all ht hA0 hst hok) (fun τ903 f9 q9 => ?_)
  obtain ⟨g903, A903, m0, m_all, hst⟩ := q9
  have m_read := frm.cell f9 m_read (by omega)
  have m_has := frm.cell f9 m_has (by omega)
  have fr := fr.step f9 (by omega) (by omega)
  refine Ev.ret rfl rfl (Nat.le_refl _) (Nat.le_refl _) ?_
  have hls : lstS 12 S s1 (tS0 U n (Re s)) = s1 := by
    unfold lstS
    exact if_neg (by omega)
  have hX : lnX U n 12 S s = s2 := by
    unfold lnX lnS lw1
    rw [← hs1, hls]
    show chn U n 12 S.1 s1 1 = s2
    rw [hs2]
    rfl
  have hN : lnN U n 12 S s = nus U n 12 S.1 s1 := by
    unfold lnN lnS lw1
    rw [← hs1, hls]
  rw [← hQ, hX, hN]
  refine ⟨rfl, fr, _, _, _, _, m0, m_all, m_read, m_has, hst, ?_, ?_⟩
  · exact (hSF.mono (Nat.le_succ b)).put (by omega)
  · intro hw9 hf9
    rw [hs2] at hw9 hf9
    obtain ⟨w2, k2, f2, g2, -⟩ := nst_f0 hw9 hf9
    have hm := hrd (hf1.symm.trans f2)
    have u2 : v2 = tV U n (Re s1) := by rw [hv2, rvl_ok w2 k2 g2]
    have n0 : nus U n 12 S.1 s1 0 = v2 := u2.symm
    show mS _ 0 (S_ar S 9 (upd (S.2.2 9) 8 (nI (nus U n 12 S.1 s1 0))))
    rw [n0]
    exact mS_9 (j := 8) hm hn16 hn5 (by omega)
theorem m_schL13_ok (m0 : σ.2 y = some (.inr (.inr (10, mo y g)))) (m_all : σ.2 (y + 1) = some (.inl (0, 4500, A))) {rd : Nat → Int32} (m_read : σ.2 (y + 3) = some (.inl (0, 120, rd))) (ht : txt U n) (hA0 : ∀ p, p < n → A0 (10 + p) = nI (U p)) (hst : MSt0 U n A0 A g s) (hok : Rok U n s) (hw : Rw s = false) (hk : tK U n (Re s) = 3) (hW : tW U n (Re s) = 14) (hwS : wS S) {b : Nat} (hb : b ≤ 600) (hSF : SF b rd) (hrd : Rf s = 0 → mS rd 0 S) : RetX Γ m_M_schoolLine [.ref y] σ y (y + 4) none (fun τ => ∃ (g1 A1 rd1 : Nat → Int32) (ab1 : Bool), τ.2 y = some (.inr (.inr (10, mo y g1))) ∧ τ.2 (y + 1) = some (.inl (0, 4500, A1)) ∧ τ.2 (y + 3) = some (.inl (0, 120, rd1)) ∧ τ.2 (y + 2) = σ.2 (y + 2) ∧ MSt U n A0 A1 g1 (rel U n (lnX U n 13 S s)) ab1 ∧ SF (b + 1) rd1 ∧ (Rw (lnX U n 13 S s) = false → Rf (lnX U n 13 S s) = 0 → mS rd1 0 (LnF 13 (lnN U n 13 S s) S))) := by
  have hn6 := ht.1
  have hn16 := hwS.1
  have hn5 := hwS.2.1
  have h600 := tS0_le ht hok.1
  obtain ⟨⟨L, hL, hLb⟩, ⟨tc, htc, htb⟩, hpt, ⟨ls, hls, hls1, hls2⟩⟩ := id hSF
  have hLS : Rf s = 0 → L = S.1 := fun f => nI_injL (by omega) (by omega) (hL.symm.trans (hrd f).1)
  unfold RetX
  generalize hQ : ((fun (r0 : Option Value) (τ : ex_S) => r0 = none ∧ frm σ τ y (y + 4) ∧ (fun τ : ex_S => ∃ (g1 A1 rd1 : Nat → Int32) (ab1 : Bool), τ.2 y = some (.inr (.inr (10, mo y g1))) ∧ τ.2 (y + 1) = some (.inl (0, 4500, A1)) ∧ τ.2 (y + 3) = some (.inl (0, 120, rd1)) ∧ τ.2 (y + 2) = σ.2 (y + 2) ∧ MSt U n A0 A1 g1 (rel U n (lnX U n 13 S s)) ab1 ∧ SF (b + 1) rd1 ∧ (Rw (lnX U n 13 S s) = false → Rf (lnX U n 13 S s) = 0 → mS rd1 0 (LnF 13 (lnN U n 13 S s) S))) τ)) = Q
  refine Ret.start pm_182 rfl ?_
  have fr : frm σ σ y (y + 4) := frm.rf
  have m_has : σ.2 (y + 2) = σ.2 (y + 2) := rfl
  refine Ev.aload_n rfl rfl ?_
  refine Ev.getf rfl rfl m0 rfl ?_
  rw [hst.2.2.2.1.2.1]
  refine Ev.istore_n rfl rfl rfl ?_
  refine Ev.aload_n rfl rfl ?_
  refine Ev.iconst (v := 1) rfl (by decide) ?_
  refine Ev.bipush (v := 15) rfl (by decide) ?_
  refine Ev.xV2 rfl rfl m0 rfl rfl (by decide) ⟨(Nat.le_refl _), (Nat.le_refl _)⟩ (m_takes0_y (fi := 1) (la := 15) m0 m_all ht hA0 hst hok hw (by decide) ⟨hk, by rw [hW]; decide, by rw [hW]; decide⟩) (fun τ901 f9 q9 => ?_)
  obtain ⟨g901, A901, m0, m_all, hst⟩ := q9
  have m_read := frm.cell f9 m_read (by omega)
  have m_has := frm.cell f9 m_has (by omega)
  have fr := fr.step f9 (by omega) (by omega)
  rw [show nI (tW U n (Re s)) = (14 : Int32) from by rw [hW]; rfl]
  obtain ⟨s1, hs1⟩ : ∃ q : Rs, q = (false, tE U n (Re s), Rf s, Rp s) := ⟨_, rfl⟩
  rw [← hs1] at hst
  have hw1 : Rw s1 = false := by rw [hs1]; rfl
  have he1 : Re s1 = tE U n (Re s) := by rw [hs1]; rfl
  have hf1 : Rf s1 = Rf s := by rw [hs1]; rfl
  have hp1 : Rp s1 = Rp s := by rw [hs1]; rfl
  have hok0 := hok
  have hok : Rok U n s1 := by rw [hs1]; exact lw1_ok ht hok (by omega) hw
  have ha0 : tS0 U n (Re s) < tS0 U n (Re s1) := by rw [he1]; exact tE_st ht hok0.1 (by omega)
  have hpa : Rw s1 = false → ¬ Rf s1 = 0 → ∃ q, Rp s1 = nI q ∧ q < tS0 U n (Re s) := fun _ c => by
    rw [hp1]
    exact hok0.2.2 hw (by rw [← hf1]; exact c)
  refine Ev.istore_n rfl rfl rfl ?_
  refine Ev.iload_n rfl rfl ?_
  refine Ev.iconst (v := 1) rfl (by decide) ?_
  refine Ev.jne (tgt := 23) rfl (by decide) (fun c15 => ?_) (fun c15 => absurd c15 (by decide))
  refine Ev.iload_n rfl rfl ?_
  refine Ev.iconst (v := 2) rfl (by decide) ?_
  refine Ev.jne (tgt := 32) rfl (by decide) (fun c25 => ?_) (fun c25 => absurd c25 (by decide))
  refine Ev.iload_n rfl rfl ?_
  refine Ev.iconst (v := 3) rfl (by decide) ?_
  refine Ev.jne (tgt := 91) rfl (by decide) (fun c34 => ?_) (fun c34 => absurd c34 (by decide))
  refine Ev.iload_n rfl rfl ?_
  refine Ev.iconst (v := 4) rfl (by decide) ?_
  refine Ev.jne (tgt := 101) rfl (by decide) (fun c93 => ?_) (fun c93 => absurd c93 (by decide))
  refine Ev.iload_n rfl rfl ?_
  refine Ev.iconst (v := 5) rfl (by decide) ?_
  refine Ev.jeq (tgt := 112) rfl (by decide) (fun c103 => absurd c103 (by decide)) (fun c103 => ?_)
  refine Ev.iload_n rfl rfl ?_
  refine Ev.bipush (v := 6) rfl (by decide) ?_
  refine Ev.jne (tgt := 126) rfl (by decide) (fun c109 => ?_) (fun c109 => absurd c109 (by decide))
  refine Ev.iload_n rfl rfl ?_
  refine Ev.bipush (v := 7) rfl (by decide) ?_
  refine Ev.jne (tgt := 158) rfl (by decide) (fun c129 => ?_) (fun c129 => absurd c129 (by decide))
  refine Ev.iload_n rfl rfl ?_
  refine Ev.bipush (v := 8) rfl (by decide) ?_
  refine Ev.jne (tgt := 195) rfl (by decide) (fun c161 => ?_) (fun c161 => absurd c161 (by decide))
  refine Ev.iload_n rfl rfl ?_
  refine Ev.bipush (v := 9) rfl (by decide) ?_
  refine Ev.jne (tgt := 215) rfl (by decide) (fun c198 => ?_) (fun c198 => absurd c198 (by decide))
  refine Ev.iload_n rfl rfl ?_
  refine Ev.bipush (v := 10) rfl (by decide) ?_
  refine Ev.jne (tgt := 236) rfl (by decide) (fun c218 => ?_) (fun c218 => absurd c218 (by decide))
  refine Ev.iload_n rfl rfl ?_
  refine Ev.bipush (v := 11) rfl (by decide) ?_
  refine Ev.jne (tgt := 257) rfl (by decide) (fun c239 => ?_) (fun c239 => absurd c239 (by decide))
  refine Ev.iload_n rfl rfl ?_
  refine Ev.bipush (v := 12) rfl (by decide) ?_
  refine Ev.jne (tgt := 277) rfl (by decide) (fun c260 => ?_) (fun c260 => absurd c260 (by decide))
  refine Ev.iload_n rfl rfl ?_
  refine Ev.bipush (v := 13) rfl (by decide) ?_
  refine Ev.jne (tgt := 297) rfl (by decide) (fun c280 => ?_) (fun c280 => absurd c280 (by decide))
  refine Ev.iload_n rfl rfl ?_
  refine Ev.bipush (v := 14) rfl (by decide) ?_
  refine Ev.jne (tgt := 317) rfl (by decide) (fun c300 => absurd (by decide) c300) (fun c300 => ?_)
  refine Ev.aload_n rfl rfl ?_
  refine Ev.getf rfl rfl m0 rfl ?_
  refine Ev.bipush (v := 11) rfl (by decide) ?_
  refine Ev.aload_n rfl rfl ?_
  refine Ev.iconst (v := 0) rfl (by decide) ?_
  refine Ev.bipush (v := 99) rfl (by decide) ?_
  refine Ev.xV2 rfl rfl m0 rfl rfl (by decide) ⟨(Nat.le_refl _), (Nat.le_refl _)⟩ (m_numb_ok m0 m_all ht hA0 hst hok (lo := 0) (G := fun v => decide (0 ≤ v) && decide (v ≤ 99)) (K_in_G ⟨by decide, by decide⟩)) (fun τ902 f9 q9 => ?_)
  obtain ⟨g902, A902, m0, m_all, hst⟩ := q9
  have m_read := frm.cell f9 m_read (by omega)
  have m_has := frm.cell f9 m_has (by omega)
  have fr := fr.step f9 (by omega) (by omega)
  obtain ⟨s2, hs2⟩ : ∃ q, q = nst U n ((fun v => decide (0 ≤ v) && decide (v ≤ 99)) (tV U n (Re s1))) s1 := ⟨_, rfl⟩
  obtain ⟨ab2, hab2⟩ : ∃ q, q = rab U n (fun v => decide (0 ≤ v) && decide (v ≤ 99)) true s1 := ⟨_, rfl⟩
  obtain ⟨v2, hv2⟩ : ∃ q, q = rvl U n 0 (fun v => decide (0 ≤ v) && decide (v ≤ 99)) s1 := ⟨_, rfl⟩
  rw [← hs2, ← hab2] at hst
  rw [← hv2]
  have hok : Rok U n s2 := by
    rw [hs2]
    exact nst_ok ht hok
  have hr2 := rvl_le (U := U) (n := n) (lo := 0) (hi := 99) (s := s1) (by decide)
  rw [← hv2] at hr2
  refine Ev.iastE (k := 11) rfl m_read (rfl : (11 : Int32) = nI 11) ⟨(by omega), by decide⟩ (fun τ1 f1 m_read => ?_)
  have m0 := frm.cell f1 m0 (by omega)
  have m_all := frm.cell f1 m_all (by omega)
  have m_has := frm.cell f1 m_has (by omega)
  have fr := fr.step f1 (by omega) (by omega)
  refine Ev.iload_n rfl rfl ?_
  refine Ev.bipush (v := 15) rfl (by decide) ?_
  refine Ev.jne (tgt := 338) rfl (by decide) (fun c320 => ?_) (fun c320 => absurd c320 (by decide))
  refine Ev.aload_n rfl rfl ?_
  refine Ev.xV0u rfl rfl m0 rfl rfl (by decide) ⟨(Nat.le_refl _), (Nat.le_refl _)⟩ (m_endsL_ok m0 m_all ht hA0 hst hok) (fun τ903 f9 q9 => ?_)
  obtain ⟨g903, A903, m0, m_all, hst⟩ := q9
  have m_read := frm.cell f9 m_read (by omega)
  have m_has := frm.cell f9 m_has (by omega)
  have fr := fr.step f9 (by omega) (by omega)
  refine Ev.ret rfl rfl (Nat.le_refl _) (Nat.le_refl _) ?_
  have hls : lstS 13 S s1 (tS0 U n (Re s)) = s1 := by
    unfold lstS
    exact if_neg (by omega)
  have hX : lnX U n 13 S s = s2 := by
    unfold lnX lnS lw1
    rw [← hs1, hls]
    show chn U n 13 S.1 s1 1 = s2
    rw [hs2]
    rfl
  have hN : lnN U n 13 S s = nus U n 13 S.1 s1 := by
    unfold lnN lnS lw1
    rw [← hs1, hls]
  rw [← hQ, hX, hN]
  refine ⟨rfl, fr, _, _, _, _, m0, m_all, m_read, m_has, hst, ?_, ?_⟩
  · exact (hSF.mono (Nat.le_succ b)).put (by omega)
  · intro hw9 hf9
    rw [hs2] at hw9 hf9
    obtain ⟨w2, k2, f2, g2, -⟩ := nst_f0 hw9 hf9
    have hm := hrd (hf1.symm.trans f2)
    have u2 : v2 = tV U n (Re s1) := by rw [hv2, rvl_ok w2 k2 g2]
    have n0 : nus U n 13 S.1 s1 0 = v2 := u2.symm
    show mS _ 0 (S_ar S 9 (upd (S.2.2 9) 9 (nI (nus U n 13 S.1 s1 0))))
    rw [n0]
    exact mS_9 (j := 9) hm hn16 hn5 (by omega)
theorem m_schL14_ok (m0 : σ.2 y = some (.inr (.inr (10, mo y g)))) (m_all : σ.2 (y + 1) = some (.inl (0, 4500, A))) {rd : Nat → Int32} (m_read : σ.2 (y + 3) = some (.inl (0, 120, rd))) (ht : txt U n) (hA0 : ∀ p, p < n → A0 (10 + p) = nI (U p)) (hst : MSt0 U n A0 A g s) (hok : Rok U n s) (hw : Rw s = false) (hk : tK U n (Re s) = 3) (hW : tW U n (Re s) = 15) (hwS : wS S) {b : Nat} (hb : b ≤ 600) (hSF : SF b rd) (hrd : Rf s = 0 → mS rd 0 S) : RetX Γ m_M_schoolLine [.ref y] σ y (y + 4) none (fun τ => ∃ (g1 A1 rd1 : Nat → Int32) (ab1 : Bool), τ.2 y = some (.inr (.inr (10, mo y g1))) ∧ τ.2 (y + 1) = some (.inl (0, 4500, A1)) ∧ τ.2 (y + 3) = some (.inl (0, 120, rd1)) ∧ τ.2 (y + 2) = σ.2 (y + 2) ∧ MSt U n A0 A1 g1 (rel U n (lnX U n 14 S s)) ab1 ∧ SF (b + 1) rd1 ∧ (Rw (lnX U n 14 S s) = false → Rf (lnX U n 14 S s) = 0 → mS rd1 0 (LnF 14 (lnN U n 14 S s) S))) := by
  have hn6 := ht.1
  have hn16 := hwS.1
  have hn5 := hwS.2.1
  have h600 := tS0_le ht hok.1
  obtain ⟨⟨L, hL, hLb⟩, ⟨tc, htc, htb⟩, hpt, ⟨ls, hls, hls1, hls2⟩⟩ := id hSF
  have hLS : Rf s = 0 → L = S.1 := fun f => nI_injL (by omega) (by omega) (hL.symm.trans (hrd f).1)
  unfold RetX
  generalize hQ : ((fun (r0 : Option Value) (τ : ex_S) => r0 = none ∧ frm σ τ y (y + 4) ∧ (fun τ : ex_S => ∃ (g1 A1 rd1 : Nat → Int32) (ab1 : Bool), τ.2 y = some (.inr (.inr (10, mo y g1))) ∧ τ.2 (y + 1) = some (.inl (0, 4500, A1)) ∧ τ.2 (y + 3) = some (.inl (0, 120, rd1)) ∧ τ.2 (y + 2) = σ.2 (y + 2) ∧ MSt U n A0 A1 g1 (rel U n (lnX U n 14 S s)) ab1 ∧ SF (b + 1) rd1 ∧ (Rw (lnX U n 14 S s) = false → Rf (lnX U n 14 S s) = 0 → mS rd1 0 (LnF 14 (lnN U n 14 S s) S))) τ)) = Q
  refine Ret.start pm_182 rfl ?_
  have fr : frm σ σ y (y + 4) := frm.rf
  have m_has : σ.2 (y + 2) = σ.2 (y + 2) := rfl
  refine Ev.aload_n rfl rfl ?_
  refine Ev.getf rfl rfl m0 rfl ?_
  rw [hst.2.2.2.1.2.1]
  refine Ev.istore_n rfl rfl rfl ?_
  refine Ev.aload_n rfl rfl ?_
  refine Ev.iconst (v := 1) rfl (by decide) ?_
  refine Ev.bipush (v := 15) rfl (by decide) ?_
  refine Ev.xV2 rfl rfl m0 rfl rfl (by decide) ⟨(Nat.le_refl _), (Nat.le_refl _)⟩ (m_takes0_y (fi := 1) (la := 15) m0 m_all ht hA0 hst hok hw (by decide) ⟨hk, by rw [hW]; decide, by rw [hW]; decide⟩) (fun τ901 f9 q9 => ?_)
  obtain ⟨g901, A901, m0, m_all, hst⟩ := q9
  have m_read := frm.cell f9 m_read (by omega)
  have m_has := frm.cell f9 m_has (by omega)
  have fr := fr.step f9 (by omega) (by omega)
  rw [show nI (tW U n (Re s)) = (15 : Int32) from by rw [hW]; rfl]
  obtain ⟨s1, hs1⟩ : ∃ q : Rs, q = (false, tE U n (Re s), Rf s, Rp s) := ⟨_, rfl⟩
  rw [← hs1] at hst
  have hw1 : Rw s1 = false := by rw [hs1]; rfl
  have he1 : Re s1 = tE U n (Re s) := by rw [hs1]; rfl
  have hf1 : Rf s1 = Rf s := by rw [hs1]; rfl
  have hp1 : Rp s1 = Rp s := by rw [hs1]; rfl
  have hok0 := hok
  have hok : Rok U n s1 := by rw [hs1]; exact lw1_ok ht hok (by omega) hw
  have ha0 : tS0 U n (Re s) < tS0 U n (Re s1) := by rw [he1]; exact tE_st ht hok0.1 (by omega)
  have hpa : Rw s1 = false → ¬ Rf s1 = 0 → ∃ q, Rp s1 = nI q ∧ q < tS0 U n (Re s) := fun _ c => by
    rw [hp1]
    exact hok0.2.2 hw (by rw [← hf1]; exact c)
  refine Ev.istore_n rfl rfl rfl ?_
  refine Ev.iload_n rfl rfl ?_
  refine Ev.iconst (v := 1) rfl (by decide) ?_
  refine Ev.jne (tgt := 23) rfl (by decide) (fun c15 => ?_) (fun c15 => absurd c15 (by decide))
  refine Ev.iload_n rfl rfl ?_
  refine Ev.iconst (v := 2) rfl (by decide) ?_
  refine Ev.jne (tgt := 32) rfl (by decide) (fun c25 => ?_) (fun c25 => absurd c25 (by decide))
  refine Ev.iload_n rfl rfl ?_
  refine Ev.iconst (v := 3) rfl (by decide) ?_
  refine Ev.jne (tgt := 91) rfl (by decide) (fun c34 => ?_) (fun c34 => absurd c34 (by decide))
  refine Ev.iload_n rfl rfl ?_
  refine Ev.iconst (v := 4) rfl (by decide) ?_
  refine Ev.jne (tgt := 101) rfl (by decide) (fun c93 => ?_) (fun c93 => absurd c93 (by decide))
  refine Ev.iload_n rfl rfl ?_
  refine Ev.iconst (v := 5) rfl (by decide) ?_
  refine Ev.jeq (tgt := 112) rfl (by decide) (fun c103 => absurd c103 (by decide)) (fun c103 => ?_)
  refine Ev.iload_n rfl rfl ?_
  refine Ev.bipush (v := 6) rfl (by decide) ?_
  refine Ev.jne (tgt := 126) rfl (by decide) (fun c109 => ?_) (fun c109 => absurd c109 (by decide))
  refine Ev.iload_n rfl rfl ?_
  refine Ev.bipush (v := 7) rfl (by decide) ?_
  refine Ev.jne (tgt := 158) rfl (by decide) (fun c129 => ?_) (fun c129 => absurd c129 (by decide))
  refine Ev.iload_n rfl rfl ?_
  refine Ev.bipush (v := 8) rfl (by decide) ?_
  refine Ev.jne (tgt := 195) rfl (by decide) (fun c161 => ?_) (fun c161 => absurd c161 (by decide))
  refine Ev.iload_n rfl rfl ?_
  refine Ev.bipush (v := 9) rfl (by decide) ?_
  refine Ev.jne (tgt := 215) rfl (by decide) (fun c198 => ?_) (fun c198 => absurd c198 (by decide))
  refine Ev.iload_n rfl rfl ?_
  refine Ev.bipush (v := 10) rfl (by decide) ?_
  refine Ev.jne (tgt := 236) rfl (by decide) (fun c218 => ?_) (fun c218 => absurd c218 (by decide))
  refine Ev.iload_n rfl rfl ?_
  refine Ev.bipush (v := 11) rfl (by decide) ?_
  refine Ev.jne (tgt := 257) rfl (by decide) (fun c239 => ?_) (fun c239 => absurd c239 (by decide))
  refine Ev.iload_n rfl rfl ?_
  refine Ev.bipush (v := 12) rfl (by decide) ?_
  refine Ev.jne (tgt := 277) rfl (by decide) (fun c260 => ?_) (fun c260 => absurd c260 (by decide))
  refine Ev.iload_n rfl rfl ?_
  refine Ev.bipush (v := 13) rfl (by decide) ?_
  refine Ev.jne (tgt := 297) rfl (by decide) (fun c280 => ?_) (fun c280 => absurd c280 (by decide))
  refine Ev.iload_n rfl rfl ?_
  refine Ev.bipush (v := 14) rfl (by decide) ?_
  refine Ev.jne (tgt := 317) rfl (by decide) (fun c300 => ?_) (fun c300 => absurd c300 (by decide))
  refine Ev.iload_n rfl rfl ?_
  refine Ev.bipush (v := 15) rfl (by decide) ?_
  refine Ev.jne (tgt := 338) rfl (by decide) (fun c320 => absurd (by decide) c320) (fun c320 => ?_)
  refine Ev.aload_n rfl rfl ?_
  refine Ev.getf rfl rfl m0 rfl ?_
  refine Ev.bipush (v := 12) rfl (by decide) ?_
  refine Ev.aload_n rfl rfl ?_
  refine Ev.iconst (v := 0) rfl (by decide) ?_
  refine Ev.sipush (v := 200) rfl (by decide) ?_
  refine Ev.xV2 rfl rfl m0 rfl rfl (by decide) ⟨(Nat.le_refl _), (Nat.le_refl _)⟩ (m_numb_ok m0 m_all ht hA0 hst hok (lo := 0) (G := fun v => decide (0 ≤ v) && decide (v ≤ 200)) (K_in_G ⟨by decide, by decide⟩)) (fun τ902 f9 q9 => ?_)
  obtain ⟨g902, A902, m0, m_all, hst⟩ := q9
  have m_read := frm.cell f9 m_read (by omega)
  have m_has := frm.cell f9 m_has (by omega)
  have fr := fr.step f9 (by omega) (by omega)
  obtain ⟨s2, hs2⟩ : ∃ q, q = nst U n ((fun v => decide (0 ≤ v) && decide (v ≤ 200)) (tV U n (Re s1))) s1 := ⟨_, rfl⟩
  obtain ⟨ab2, hab2⟩ : ∃ q, q = rab U n (fun v => decide (0 ≤ v) && decide (v ≤ 200)) true s1 := ⟨_, rfl⟩
  obtain ⟨v2, hv2⟩ : ∃ q, q = rvl U n 0 (fun v => decide (0 ≤ v) && decide (v ≤ 200)) s1 := ⟨_, rfl⟩
  rw [← hs2, ← hab2] at hst
  rw [← hv2]
  have hok : Rok U n s2 := by
    rw [hs2]
    exact nst_ok ht hok
  have hr2 := rvl_le (U := U) (n := n) (lo := 0) (hi := 200) (s := s1) (by decide)
  rw [← hv2] at hr2
  refine Ev.iastE (k := 12) rfl m_read (rfl : (12 : Int32) = nI 12) ⟨(by omega), by decide⟩ (fun τ1 f1 m_read => ?_)
  have m0 := frm.cell f1 m0 (by omega)
  have m_all := frm.cell f1 m_all (by omega)
  have m_has := frm.cell f1 m_has (by omega)
  have fr := fr.step f1 (by omega) (by omega)
  refine Ev.aload_n rfl rfl ?_
  refine Ev.xV0u rfl rfl m0 rfl rfl (by decide) ⟨(Nat.le_refl _), (Nat.le_refl _)⟩ (m_endsL_ok m0 m_all ht hA0 hst hok) (fun τ903 f9 q9 => ?_)
  obtain ⟨g903, A903, m0, m_all, hst⟩ := q9
  have m_read := frm.cell f9 m_read (by omega)
  have m_has := frm.cell f9 m_has (by omega)
  have fr := fr.step f9 (by omega) (by omega)
  refine Ev.ret rfl rfl (Nat.le_refl _) (Nat.le_refl _) ?_
  have hls : lstS 14 S s1 (tS0 U n (Re s)) = s1 := by
    unfold lstS
    exact if_neg (by omega)
  have hX : lnX U n 14 S s = s2 := by
    unfold lnX lnS lw1
    rw [← hs1, hls]
    show chn U n 14 S.1 s1 1 = s2
    rw [hs2]
    rfl
  have hN : lnN U n 14 S s = nus U n 14 S.1 s1 := by
    unfold lnN lnS lw1
    rw [← hs1, hls]
  rw [← hQ, hX, hN]
  refine ⟨rfl, fr, _, _, _, _, m0, m_all, m_read, m_has, hst, ?_, ?_⟩
  · exact (hSF.mono (Nat.le_succ b)).put (by omega)
  · intro hw9 hf9
    rw [hs2] at hw9 hf9
    obtain ⟨w2, k2, f2, g2, -⟩ := nst_f0 hw9 hf9
    have hm := hrd (hf1.symm.trans f2)
    have u2 : v2 = tV U n (Re s1) := by rw [hv2, rvl_ok w2 k2 g2]
    have n0 : nus U n 14 S.1 s1 0 = v2 := u2.symm
    show mS _ 0 (S_ar S 9 (upd (S.2.2 9) 10 (nI (nus U n 14 S.1 s1 0))))
    rw [n0]
    exact mS_9 (j := 10) hm hn16 hn5 (by omega)
end
end
