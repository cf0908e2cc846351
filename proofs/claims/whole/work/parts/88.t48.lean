/-! Texts of schools (reference): the lines of learners, teachers, tables. -/
noncomputable section
theorem rvl_ok {U : Nat → Nat} {n lo : Nat} {G : Nat → Bool} {s : Rs} (hw : Rw s = false) (hk : tK U n (Re s) = 1) (hg : G (tV U n (Re s)) = true) : rvl U n lo G s = tV U n (Re s) := by
  unfold rvl
  rw [if_neg (fun h => h.elim (fun h => by rw [hw] at h; cases h) (fun h => h hk)), if_pos hg]
theorem rvl_le {U : Nat → Nat} {n lo hi : Nat} {s : Rs} (hl : lo ≤ hi) : rvl U n lo (fun v => decide (lo ≤ v) && decide (v ≤ hi)) s ≤ hi ∧ lo ≤ rvl U n lo (fun v => decide (lo ≤ v) && decide (v ≤ hi)) s := by
  unfold rvl
  split
  · exact ⟨hl, Nat.le_refl _⟩
  · split
    · rename_i h
      have h : (decide (lo ≤ tV U n (Re s)) && decide (tV U n (Re s) ≤ hi)) = true := h
      simp at h
      exact ⟨h.2, h.1⟩
    · exact ⟨hl, Nat.le_refl _⟩
theorem rnt_ok {U : Nat → Nat} {n k a : Nat} {s : Rs} (h : Rok U n s) (hk : k ≤ 4) (ha : Rw s = false → a < tS0 U n (Re s)) : Rok U n (rnt s k a) := by
  obtain ⟨h1, h2, h3⟩ := h
  unfold rnt
  split
  · exact ⟨h1, hk, fun hw _ => ⟨a, rfl, ha hw⟩⟩
  · exact ⟨h1, h2, h3⟩
/-- a line's start: a fault is noted where there is no room -/
def lstS (k : Nat) (S : Sch) (s : Rs) (a : Nat) : Rs := if k = 0 ∧ 16 ≤ S.1 ∨ k = 3 ∧ 5 ≤ S.2.1 then rnt s 3 a else s
theorem rnt_f {s : Rs} {k a : Nat} (h : ¬ Rf s = 0) : rnt s k a = s := by
  unfold rnt
  rw [if_neg h]
section
variable {Γ : ex_G} {σ : ex_S} {x q a p y : Nat} {S : Sch} {T : Tol} {P : Pln} {g A : Nat → Int32}
variable {U : Nat → Nat} {n : Nat} {A0 : Nat → Int32} {s : Rs} {ab : Bool}
theorem m_lrnL_ok (m0 : σ.2 y = some (.inr (.inr (10, mo y g)))) (m_all : σ.2 (y + 1) = some (.inl (0, 4500, A))) {rd : Nat → Int32} (m_read : σ.2 (y + 3) = some (.inl (0, 120, rd))) (ht : txt U n) (hA0 : ∀ p, p < n → A0 (10 + p) = nI (U p)) (hst : MSt U n A0 A g s ab) (hok : Rok U n s) (hwS : wS S) {b : Nat} (hb : b ≤ 600) (hSF : SF b rd) (hrd : Rf s = 0 → mS rd 0 S) {a0 : Nat} (ha0 : a0 < tS0 U n (Re s)) (hpa : Rw s = false → ¬ Rf s = 0 → ∃ q, Rp s = nI q ∧ q < a0) : RetX Γ m_M_learnerLine [.ref y, .int (nI a0)] σ y (y + 4) none (fun τ => ∃ (g1 A1 rd1 : Nat → Int32) (ab1 : Bool), τ.2 y = some (.inr (.inr (10, mo y g1))) ∧ τ.2 (y + 1) = some (.inl (0, 4500, A1)) ∧ τ.2 (y + 3) = some (.inl (0, 120, rd1)) ∧ τ.2 (y + 2) = σ.2 (y + 2) ∧ MSt U n A0 A1 g1 (chn U n 0 S.1 (lstS 0 S s a0) 3) ab1 ∧ SF (b + 1) rd1 ∧ (Rw (chn U n 0 S.1 (lstS 0 S s a0) 3) = false → Rf (chn U n 0 S.1 (lstS 0 S s a0) 3) = 0 → mS rd1 0 (LnF 0 (nus U n 0 S.1 (lstS 0 S s a0)) S))) := by
  have hn6 := ht.1
  have hn16 := hwS.1
  have hn5 := hwS.2.1
  have h600 := tS0_le ht hok.1
  obtain ⟨⟨L, hL, hLb⟩, ⟨tc, htc, htb⟩, hpt, ⟨ls, hls, hls1, hls2⟩⟩ := id hSF
  unfold RetX
  generalize hQ : ((fun (r0 : Option Value) (τ : ex_S) => r0 = none ∧ frm σ τ y (y + 4) ∧ (fun τ : ex_S => ∃ (g1 A1 rd1 : Nat → Int32) (ab1 : Bool), τ.2 y = some (.inr (.inr (10, mo y g1))) ∧ τ.2 (y + 1) = some (.inl (0, 4500, A1)) ∧ τ.2 (y + 3) = some (.inl (0, 120, rd1)) ∧ τ.2 (y + 2) = σ.2 (y + 2) ∧ MSt U n A0 A1 g1 (chn U n 0 S.1 (lstS 0 S s a0) 3) ab1 ∧ SF (b + 1) rd1 ∧ (Rw (chn U n 0 S.1 (lstS 0 S s a0) 3) = false → Rf (chn U n 0 S.1 (lstS 0 S s a0) 3) = 0 → mS rd1 0 (LnF 0 (nus U n 0 S.1 (lstS 0 S s a0)) S))) τ)) = Q
  refine Ret.start pm_177 rfl ?_
  have fr : frm σ σ y (y + 4) := frm.rf
  have m_has : σ.2 (y + 2) = σ.2 (y + 2) := rfl
  refine Ev.aload_n rfl rfl ?_
  refine Ev.getf rfl rfl m0 rfl ?_
  refine Ev.iconst (v := 0) rfl (by decide) ?_
  refine Ev.ialdN (k := 0) rfl m_read (rfl : (0 : Int32) = nI 0) ⟨(by omega), by decide⟩ ?_
  rw [show rd 0 = nI L from hL]
  refine Ev.bipush (v := 16) rfl (by decide) ?_
  refine Ev.jlt (tgt := 17) rfl (by decide) (fun c8 => ?_) (fun c8 => ?_)
  · skip
    have h16 : L < 16 := (nI_ltI (a := L) (b := 16) (by omega) (by decide)).mp c8
    refine Ev.aload_n rfl rfl ?_
    refine Ev.iconst (v := 0) rfl (by decide) ?_
    refine Ev.bipush (v := 11) rfl (by decide) ?_
    refine Ev.xV2 rfl rfl m0 rfl rfl (by decide) ⟨(Nat.le_refl _), (Nat.le_refl _)⟩ (m_numb_ok m0 m_all ht hA0 hst hok (lo := 0) (G := fun v => decide (0 ≤ v) && decide (v ≤ 11)) (K_in_G ⟨by decide, by decide⟩)) (fun τ901 f9 q9 => ?_)
    obtain ⟨g901, A901, m0, m_all, hst⟩ := q9
    have m_read := frm.cell f9 m_read (by omega)
    have m_has := frm.cell f9 m_has (by omega)
    have fr := fr.step f9 (by omega) (by omega)
    obtain ⟨s2, hs2⟩ : ∃ q, q = nst U n ((fun v => decide (0 ≤ v) && decide (v ≤ 11)) (tV U n (Re s))) s := ⟨_, rfl⟩
    obtain ⟨ab2, hab2⟩ : ∃ q, q = rab U n (fun v => decide (0 ≤ v) && decide (v ≤ 11)) ab s := ⟨_, rfl⟩
    obtain ⟨v2, hv2⟩ : ∃ q, q = rvl U n 0 (fun v => decide (0 ≤ v) && decide (v ≤ 11)) s := ⟨_, rfl⟩
    rw [← hs2, ← hab2] at hst
    rw [← hv2]
    have hok : Rok U n s2 := by
      rw [hs2]
      exact nst_ok ht hok
    have hr2 := rvl_le (U := U) (n := n) (lo := 0) (hi := 11) (s := s) (by decide)
    rw [← hv2] at hr2
    refine Ev.istore_n rfl rfl rfl ?_
    refine Ev.aload_n rfl rfl ?_
    refine Ev.iconst (v := 1) rfl (by decide) ?_
    refine Ev.bipush (v := 63) rfl (by decide) ?_
    refine Ev.xV2 rfl rfl m0 rfl rfl (by decide) ⟨(Nat.le_refl _), (Nat.le_refl _)⟩ (m_numb_ok m0 m_all ht hA0 hst hok (lo := 1) (G := fun v => decide (1 ≤ v) && decide (v ≤ 63)) (K_in_G ⟨by decide, by decide⟩)) (fun τ902 f9 q9 => ?_)
    obtain ⟨g902, A902, m0, m_all, hst⟩ := q9
    have m_read := frm.cell f9 m_read (by omega)
    have m_has := frm.cell f9 m_has (by omega)
    have fr := fr.step f9 (by omega) (by omega)
    obtain ⟨s3, hs3⟩ : ∃ q, q = nst U n ((fun v => decide (1 ≤ v) && decide (v ≤ 63)) (tV U n (Re s2))) s2 := ⟨_, rfl⟩
    obtain ⟨ab3, hab3⟩ : ∃ q, q = rab U n (fun v => decide (1 ≤ v) && decide (v ≤ 63)) ab2 s2 := ⟨_, rfl⟩
    obtain ⟨v3, hv3⟩ : ∃ q, q = rvl U n 1 (fun v => decide (1 ≤ v) && decide (v ≤ 63)) s2 := ⟨_, rfl⟩
    rw [← hs3, ← hab3] at hst
    rw [← hv3]
    have hok : Rok U n s3 := by
      rw [hs3]
      exact nst_ok ht hok
    have hr3 := rvl_le (U := U) (n := n) (lo := 1) (hi := 63) (s := s2) (by decide)
    rw [← hv3] at hr3
    refine Ev.istore_n rfl rfl rfl ?_
    refine Ev.aload_n rfl rfl ?_
    refine Ev.iconst (v := 0) rfl (by decide) ?_
    refine Ev.sipush (v := 999) rfl (by decide) ?_
    refine Ev.xV2 rfl rfl m0 rfl rfl (by decide) ⟨(Nat.le_refl _), (Nat.le_refl _)⟩ (m_numb_ok m0 m_all ht hA0 hst hok (lo := 0) (G := fun v => decide (0 ≤ v) && decide (v ≤ 999)) (K_in_G ⟨by decide, by decide⟩)) (fun τ903 f9 q9 => ?_)
    obtain ⟨g903, A903, m0, m_all, hst⟩ := q9
    have m_read := frm.cell f9 m_read (by omega)
    have m_has := frm.cell f9 m_has (by omega)
    have fr := fr.step f9 (by omega) (by omega)
    obtain ⟨s4, hs4⟩ : ∃ q, q = nst U n ((fun v => decide (0 ≤ v) && decide (v ≤ 999)) (tV U n (Re s3))) s3 := ⟨_, rfl⟩
    obtain ⟨ab4, hab4⟩ : ∃ q, q = rab U n (fun v => decide (0 ≤ v) && decide (v ≤ 999)) ab3 s3 := ⟨_, rfl⟩
    obtain ⟨v4, hv4⟩ : ∃ q, q = rvl U n 0 (fun v => decide (0 ≤ v) && decide (v ≤ 999)) s3 := ⟨_, rfl⟩
    rw [← hs4, ← hab4] at hst
    rw [← hv4]
    have hok : Rok U n s4 := by
      rw [hs4]
      exact nst_ok ht hok
    have hr4 := rvl_le (U := U) (n := n) (lo := 0) (hi := 999) (s := s3) (by decide)
    rw [← hv4] at hr4
    refine Ev.istore rfl rfl rfl ?_
    refine Ev.aload_n rfl rfl ?_
    refine Ev.getf rfl rfl m0 rfl ?_
    refine Ev.iconst (v := 0) rfl (by decide) ?_
    refine Ev.ialdN (k := 0) rfl m_read (rfl : (0 : Int32) = nI 0) ⟨(by omega), by decide⟩ ?_
    rw [show rd 0 = nI L from hL]
    refine Ev.bipush (v := 16) rfl (by decide) ?_
    refine Ev.jge (tgt := 118) rfl (by decide) (fun c51 => absurd c8 c51) (fun c51 => ?_)
    refine Ev.aload_n rfl rfl ?_
    refine Ev.getf rfl rfl m0 rfl ?_
    refine Ev.iconst (v := 0) rfl (by decide) ?_
    refine Ev.ialdN (k := 0) rfl m_read (rfl : (0 : Int32) = nI 0) ⟨(by omega), by decide⟩ ?_
    rw [show rd 0 = nI L from hL]
    refine Ev.istore rfl rfl rfl ?_
    refine Ev.aload_n rfl rfl ?_
    refine Ev.getf rfl rfl m0 rfl ?_
    refine Ev.bipush (v := 13) rfl (by decide) ?_
    refine Ev.iload rfl rfl ?_
    refine Ev.iadd rfl ?_
    refine Ev.iload_n rfl rfl ?_
    refine Ev.iastE (k := 13 + L) rfl m_read (nq_add (a := 13) (b := L) (rfl : (13 : Int32) = nI 13) rfl) ⟨(by omega), by decide⟩ (fun τ1 f1 m_read => ?_)
    have m0 := frm.cell f1 m0 (by omega)
    have m_all := frm.cell f1 m_all (by omega)
    have m_has := frm.cell f1 m_has (by omega)
    have fr := fr.step f1 (by omega) (by omega)
    refine Ev.aload_n rfl rfl ?_
    refine Ev.getf rfl rfl m0 rfl ?_
    refine Ev.bipush (v := 29) rfl (by decide) ?_
    refine Ev.iload rfl rfl ?_
    refine Ev.iadd rfl ?_
    refine Ev.iload_n rfl rfl ?_
    refine Ev.iastE (k := 29 + L) rfl m_read (nq_add (a := 29) (b := L) (rfl : (29 : Int32) = nI 29) rfl) ⟨(by omega), by decide⟩ (fun τ2 f1 m_read => ?_)
    have m0 := frm.cell f1 m0 (by omega)
    have m_all := frm.cell f1 m_all (by omega)
    have m_has := frm.cell f1 m_has (by omega)
    have fr := fr.step f1 (by omega) (by omega)
    refine Ev.aload_n rfl rfl ?_
    refine Ev.getf rfl rfl m0 rfl ?_
    refine Ev.bipush (v := 45) rfl (by decide) ?_
    refine Ev.iload rfl rfl ?_
    refine Ev.iadd rfl ?_
    refine Ev.iload rfl rfl ?_
    refine Ev.iastE (k := 45 + L) rfl m_read (nq_add (a := 45) (b := L) (rfl : (45 : Int32) = nI 45) rfl) ⟨(by omega), by decide⟩ (fun τ3 f1 m_read => ?_)
    have m0 := frm.cell f1 m0 (by omega)
    have m_all := frm.cell f1 m_all (by omega)
    have m_has := frm.cell f1 m_has (by omega)
    have fr := fr.step f1 (by omega) (by omega)
    refine Ev.aload_n rfl rfl ?_
    refine Ev.getf rfl rfl m0 rfl ?_
    refine Ev.bipush (v := 61) rfl (by decide) ?_
    refine Ev.iload rfl rfl ?_
    refine Ev.iadd rfl ?_
    refine Ev.iconst (v := (-1)) rfl (by decide) ?_
    refine Ev.iastE (k := 61 + L) rfl m_read (nq_add (a := 61) (b := L) (rfl : (61 : Int32) = nI 61) rfl) ⟨(by omega), by decide⟩ (fun τ4 f1 m_read => ?_)
    have m0 := frm.cell f1 m0 (by omega)
    have m_all := frm.cell f1 m_all (by omega)
    have m_has := frm.cell f1 m_has (by omega)
    have fr := fr.step f1 (by omega) (by omega)
    refine Ev.aload_n rfl rfl ?_
    refine Ev.getf rfl rfl m0 rfl ?_
    refine Ev.bipush (v := 77) rfl (by decide) ?_
    refine Ev.iload rfl rfl ?_
    refine Ev.iadd rfl ?_
    refine Ev.iconst (v := 0) rfl (by decide) ?_
    refine Ev.iastE (k := 77 + L) rfl m_read (nq_add (a := 77) (b := L) (rfl : (77 : Int32) = nI 77) rfl) ⟨(by omega), by decide⟩ (fun τ5 f1 m_read => ?_)
    have m0 := frm.cell f1 m0 (by omega)
    have m_all := frm.cell f1 m_all (by omega)
    have m_has := frm.cell f1 m_has (by omega)
    have fr := fr.step f1 (by omega) (by omega)
    refine Ev.aload_n rfl rfl ?_
    refine Ev.getf rfl rfl m0 rfl ?_
    refine Ev.iconst (v := 0) rfl (by decide) ?_
    refine Ev.dup2 rfl rfl rfl ?_
    refine Ev.ialdN (k := 0) rfl m_read (rfl : (0 : Int32) = nI 0) ⟨(by omega), by decide⟩ ?_
    rw [show (upd (upd (upd (upd (upd rd (13 + L) (nI v2)) (29 + L) (nI v3)) (45 + L) (nI v4)) (61 + L) (-1 : Int32)) (77 + L) (0 : Int32)) 0 = nI L from (pk_un (by omega)).trans ((pk_un (by omega)).trans ((pk_un (by omega)).trans ((pk_un (by omega)).trans ((pk_un (by omega)).trans (hL)))))]
    refine Ev.iconst (v := 1) rfl (by decide) ?_
    refine Ev.iadd rfl ?_
    rw [show (nI L) + (1 : Int32) = nI (L + 1) from (nq_add (a := L) (b := 1) rfl (rfl : (1 : Int32) = nI 1))]
    refine Ev.iastE (k := 0) rfl m_read (rfl : (0 : Int32) = nI 0) ⟨(by omega), by decide⟩ (fun τ6 f1 m_read => ?_)
    have m0 := frm.cell f1 m0 (by omega)
    have m_all := frm.cell f1 m_all (by omega)
    have m_has := frm.cell f1 m_has (by omega)
    have fr := fr.step f1 (by omega) (by omega)
    refine Ev.ret rfl rfl (Nat.le_refl _) (Nat.le_refl _) ?_
    have hws : lstS 0 S s a0 = s := by
      unfold lstS
      by_cases hf0 : Rf s = 0
      · have hLS : L = S.1 := nI_injL (by omega) (by omega) (hL.symm.trans (hrd hf0).1)
        rw [if_neg (by omega)]
      · rw [rnt_f hf0]
        exact ite_self _
    have hch : chn U n 0 S.1 (lstS 0 S s a0) 3 = s4 := by
      rw [hws, hs4, hs3, hs2]
      rfl
    rw [← hQ, hch]
    refine ⟨rfl, fr, _, _, _, _, m0, m_all, m_read, m_has, hst, ?_, ?_⟩
    · exact ((((((hSF.mono (Nat.le_succ b)).put (by omega)).put (by omega)).put (by omega)).mate h16 (Or.inl rfl)).put (by omega)).cnt0 (by omega)
    · intro hw9 hf9
      rw [hs4] at hw9 hf9
      obtain ⟨w3, k3, f3, g3, -⟩ := nst_f0 hw9 hf9
      have q3 := f3
      have r3 := w3
      rw [hs3] at q3 r3
      obtain ⟨w2, k2, f2, g2, -⟩ := nst_f0 r3 q3
      have q2 := f2
      have r2 := w2
      rw [hs2] at q2 r2
      obtain ⟨w1, k1, f1, g1, -⟩ := nst_f0 r2 q2
      have hm := hrd f1
      have hLS : L = S.1 := nI_injL (by omega) (by omega) (hL.symm.trans hm.1)
      subst hLS
      rw [hv4, hv3, hv2, rvl_ok w3 k3 g3, rvl_ok w2 k2 g2, rvl_ok w1 k1 g1]
      have e1 : chn U n 0 S.1 (lstS 0 S s a0) 1 = s2 := by rw [hws, hs2]; rfl
      have e2 : chn U n 0 S.1 (lstS 0 S s a0) 2 = s3 := by rw [hws, hs3, hs2]; rfl
      have n0 : nus U n 0 S.1 (lstS 0 S s a0) 0 = tV U n (Re s) := by unfold nus; rw [hws]; rfl
      have n1 : nus U n 0 S.1 (lstS 0 S s a0) 1 = tV U n (Re s2) := by unfold nus; rw [e1]
      have n2 : nus U n 0 S.1 (lstS 0 S s a0) 2 = tV U n (Re s3) := by unfold nus; rw [e2]
      show mS _ 0 (Ln0 _ _ _ S)
      rw [n0, n1, n2]
      exact mS_0 hm h16 hn5
  · skip
    refine Ev.aload_n rfl rfl ?_
    refine Ev.iconst (v := 3) rfl (by decide) ?_
    refine Ev.iload_n rfl rfl ?_
    refine Ev.xV2u rfl rfl m0 rfl rfl (by decide) ⟨(Nat.le_refl _), (Nat.le_refl _)⟩ (m_also_ok (k := 3) m0 m_all hst hok.2.1 (by decide) (by omega) (fun a b => by obtain ⟨q, q1, q2⟩ := hpa a b; exact ⟨q, q1, Or.inl q2⟩)) (fun τ901 f9 q9 => ?_)
    obtain ⟨g901, A901, m0, m_all, hst⟩ := q9
    have m_read := frm.cell f9 m_read (by omega)
    have m_has := frm.cell f9 m_has (by omega)
    have fr := fr.step f9 (by omega) (by omega)
    obtain ⟨s2, hs2⟩ : ∃ q, q = rnt s 3 a0 := ⟨_, rfl⟩
    rw [← hs2] at hst
    have hok : Rok U n s2 := by
      rw [hs2]
      exact rnt_ok hok (by decide) (fun _ => ha0)
    have h16 : 16 ≤ L := Nat.le_of_not_lt (fun h => c8 (nI_lt (b := 16) h (by decide)))
    refine Ev.aload_n rfl rfl ?_
    refine Ev.iconst (v := 0) rfl (by decide) ?_
    refine Ev.bipush (v := 11) rfl (by decide) ?_
    refine Ev.xV2 rfl rfl m0 rfl rfl (by decide) ⟨(Nat.le_refl _), (Nat.le_refl _)⟩ (m_numb_ok m0 m_all ht hA0 hst hok (lo := 0) (G := fun v => decide (0 ≤ v) && decide (v ≤ 11)) (K_in_G ⟨by decide, by decide⟩)) (fun τ902 f9 q9 => ?_)
    obtain ⟨g902, A902, m0, m_all, hst⟩ := q9
    have m_read := frm.cell f9 m_read (by omega)
    have m_has := frm.cell f9 m_has (by omega)
    have fr := fr.step f9 (by omega) (by omega)
    obtain ⟨s3, hs3⟩ : ∃ q, q = nst U n ((fun v => decide (0 ≤ v) && decide (v ≤ 11)) (tV U n (Re s2))) s2 := ⟨_, rfl⟩
    obtain ⟨ab3, hab3⟩ : ∃ q, q = rab U n (fun v => decide (0 ≤ v) && decide (v ≤ 11)) ab s2 := ⟨_, rfl⟩
    obtain ⟨v3, hv3⟩ : ∃ q, q = rvl U n 0 (fun v => decide (0 ≤ v) && decide (v ≤ 11)) s2 := ⟨_, rfl⟩
    rw [← hs3, ← hab3] at hst
    rw [← hv3]
    have hok : Rok U n s3 := by
      rw [hs3]
      exact nst_ok ht hok
    have hr3 := rvl_le (U := U) (n := n) (lo := 0) (hi := 11) (s := s2) (by decide)
    rw [← hv3] at hr3
    refine Ev.istore_n rfl rfl rfl ?_
    refine Ev.aload_n rfl rfl ?_
    refine Ev.iconst (v := 1) rfl (by decide) ?_
    refine Ev.bipush (v := 63) rfl (by decide) ?_
    refine Ev.xV2 rfl rfl m0 rfl rfl (by decide) ⟨(Nat.le_refl _), (Nat.le_refl _)⟩ (m_numb_ok m0 m_all ht hA0 hst hok (lo := 1) (G := fun v => decide (1 ≤ v) && decide (v ≤ 63)) (K_in_G ⟨by decide, by decide⟩)) (fun τ903 f9 q9 => ?_)
    obtain ⟨g903, A903, m0, m_all, hst⟩ := q9
    have m_read := frm.cell f9 m_read (by omega)
    have m_has := frm.cell f9 m_has (by omega)
    have fr := fr.step f9 (by omega) (by omega)
    obtain ⟨s4, hs4⟩ : ∃ q, q = nst U n ((fun v => decide (1 ≤ v) && decide (v ≤ 63)) (tV U n (Re s3))) s3 := ⟨_, rfl⟩
    obtain ⟨ab4, hab4⟩ : ∃ q, q = rab U n (fun v => decide (1 ≤ v) && decide (v ≤ 63)) ab3 s3 := ⟨_, rfl⟩
    obtain ⟨v4, hv4⟩ : ∃ q, q = rvl U n 1 (fun v => decide (1 ≤ v) && decide (v ≤ 63)) s3 := ⟨_, rfl⟩
    rw [← hs4, ← hab4] at hst
    rw [← hv4]
    have hok : Rok U n s4 := by
      rw [hs4]
      exact nst_ok ht hok
    have hr4 := rvl_le (U := U) (n := n) (lo := 1) (hi := 63) (s := s3) (by decide)
    rw [← hv4] at hr4
    refine Ev.istore_n rfl rfl rfl ?_
    refine Ev.aload_n rfl rfl ?_
    refine Ev.iconst (v := 0) rfl (by decide) ?_
    refine Ev.sipush (v := 999) rfl (by decide) ?_
    refine Ev.xV2 rfl rfl m0 rfl rfl (by decide) ⟨(Nat.le_refl _), (Nat.le_refl _)⟩ (m_numb_ok m0 m_all ht hA0 hst hok (lo := 0) (G := fun v => decide (0 ≤ v) && decide (v ≤ 999)) (K_in_G ⟨by decide, by decide⟩)) (fun τ904 f9 q9 => ?_)
    obtain ⟨g904, A904, m0, m_all, hst⟩ := q9
    have m_read := frm.cell f9 m_read (by omega)
    have m_has := frm.cell f9 m_has (by omega)
    have fr := fr.step f9 (by omega) (by omega)
    obtain ⟨s5, hs5⟩ : ∃ q, q = nst U n ((fun v => decide (0 ≤ v) && decide (v ≤ 999)) (tV U n (Re s4))) s4 := ⟨_, rfl⟩
    obtain ⟨ab5, hab5⟩ : ∃ q, q = rab U n (fun v => decide (0 ≤ v) && decide (v ≤ 999)) ab4 s4 := ⟨_, rfl⟩
    obtain ⟨v5, hv5⟩ : ∃ q, q = rvl U n 0 (fun v => decide (0 ≤ v) && decide (v ≤ 999)) s4 := ⟨_, rfl⟩
    rw [← hs5, ← hab5] at hst
    rw [← hv5]
    have hok : Rok U n s5 := by
      rw [hs5]
      exact nst_ok ht hok
    have hr5 := rvl_le (U := U) (n := n) (lo := 0) (hi := 999) (s := s4) (by decide)
    rw [← hv5] at hr5
    refine Ev.istore rfl rfl rfl ?_
    refine Ev.aload_n rfl rfl ?_
    refine Ev.getf rfl rfl m0 rfl ?_
    refine Ev.iconst (v := 0) rfl (by decide) ?_
    refine Ev.ialdN (k := 0) rfl m_read (rfl : (0 : Int32) = nI 0) ⟨(by omega), by decide⟩ ?_
    rw [show rd 0 = nI L from hL]
    refine Ev.bipush (v := 16) rfl (by decide) ?_
    refine Ev.jge (tgt := 118) rfl (by decide) (fun c51 => ?_) (fun c51 => absurd c51 c8)
    refine Ev.aload_n rfl rfl ?_
    refine Ev.getf rfl rfl m0 rfl ?_
    refine Ev.iconst (v := 0) rfl (by decide) ?_
    refine Ev.dup2 rfl rfl rfl ?_
    refine Ev.ialdN (k := 0) rfl m_read (rfl : (0 : Int32) = nI 0) ⟨(by omega), by decide⟩ ?_
    rw [show rd 0 = nI L from hL]
    refine Ev.iconst (v := 1) rfl (by decide) ?_
    refine Ev.iadd rfl ?_
    rw [show (nI L) + (1 : Int32) = nI (L + 1) from (nq_add (a := L) (b := 1) rfl (rfl : (1 : Int32) = nI 1))]
    refine Ev.iastE (k := 0) rfl m_read (rfl : (0 : Int32) = nI 0) ⟨(by omega), by decide⟩ (fun τ7 f1 m_read => ?_)
    have m0 := frm.cell f1 m0 (by omega)
    have m_all := frm.cell f1 m_all (by omega)
    have m_has := frm.cell f1 m_has (by omega)
    have fr := fr.step f1 (by omega) (by omega)
    refine Ev.ret rfl rfl (Nat.le_refl _) (Nat.le_refl _) ?_
    have hws : lstS 0 S s a0 = s2 := by
      unfold lstS
      by_cases hf0 : Rf s = 0
      · have hLS : L = S.1 := nI_injL (by omega) (by omega) (hL.symm.trans (hrd hf0).1)
        rw [if_pos (Or.inl ⟨rfl, by omega⟩), hs2]
      · rw [hs2, rnt_f hf0]
        exact ite_self _
    have hch : chn U n 0 S.1 (lstS 0 S s a0) 3 = s5 := by
      rw [hws, hs5, hs4, hs3]
      rfl
    rw [← hQ, hch]
    refine ⟨rfl, fr, _, _, _, _, m0, m_all, m_read, m_has, hst, ?_, ?_⟩
    · exact (hSF.mono (Nat.le_succ b)).cnt0 (by omega)
    · intro hw9 hf9
      rw [hs5] at hw9 hf9
      obtain ⟨w3, k3, f3, g3, -⟩ := nst_f0 hw9 hf9
      have q3 := f3
      have r3 := w3
      rw [hs4] at q3 r3
      obtain ⟨w2, k2, f2, g2, -⟩ := nst_f0 r3 q3
      have q2 := f2
      have r2 := w2
      rw [hs3] at q2 r2
      obtain ⟨w1, k1, f1, g1, -⟩ := nst_f0 r2 q2
      rw [hs2] at f1
      exact absurd f1 (rnt_f0 (by decide))
theorem m_tchL_ok (m0 : σ.2 y = some (.inr (.inr (10, mo y g)))) (m_all : σ.2 (y + 1) = some (.inl (0, 4500, A))) {rd : Nat → Int32} (m_read : σ.2 (y + 3) = some (.inl (0, 120, rd))) (ht : txt U n) (hA0 : ∀ p, p < n → A0 (10 + p) = nI (U p)) (hst : MSt U n A0 A g s ab) (hok : Rok U n s) (hwS : wS S) {b : Nat} (hb : b ≤ 600) (hSF : SF b rd) (hrd : Rf s = 0 → mS rd 0 S) {a0 : Nat} (ha0 : a0 < tS0 U n (Re s)) (hpa : Rw s = false → ¬ Rf s = 0 → ∃ q, Rp s = nI q ∧ q < a0) : RetX Γ m_M_teacherLine [.ref y, .int (nI a0)] σ y (y + 4) none (fun τ => ∃ (g1 A1 rd1 : Nat → Int32) (ab1 : Bool), τ.2 y = some (.inr (.inr (10, mo y g1))) ∧ τ.2 (y + 1) = some (.inl (0, 4500, A1)) ∧ τ.2 (y + 3) = some (.inl (0, 120, rd1)) ∧ τ.2 (y + 2) = σ.2 (y + 2) ∧ MSt U n A0 A1 g1 (chn U n 3 S.1 (lstS 3 S s a0) 2) ab1 ∧ SF (b + 1) rd1 ∧ (Rw (chn U n 3 S.1 (lstS 3 S s a0) 2) = false → Rf (chn U n 3 S.1 (lstS 3 S s a0) 2) = 0 → mS rd1 0 (LnF 3 (nus U n 3 S.1 (lstS 3 S s a0)) S))) := by
  have hn6 := ht.1
  have hn16 := hwS.1
  have hn5 := hwS.2.1
  have h600 := tS0_le ht hok.1
  obtain ⟨⟨L, hL, hLb⟩, ⟨tc, htc, htb⟩, hpt, ⟨ls, hls, hls1, hls2⟩⟩ := id hSF
  unfold RetX
  generalize hQ : ((fun (r0 : Option Value) (τ : ex_S) => r0 = none ∧ frm σ τ y (y + 4) ∧ (fun τ : ex_S => ∃ (g1 A1 rd1 : Nat → Int32) (ab1 : Bool), τ.2 y = some (.inr (.inr (10, mo y g1))) ∧ τ.2 (y + 1) = some (.inl (0, 4500, A1)) ∧ τ.2 (y + 3) = some (.inl (0, 120, rd1)) ∧ τ.2 (y + 2) = σ.2 (y + 2) ∧ MSt U n A0 A1 g1 (chn U n 3 S.1 (lstS 3 S s a0) 2) ab1 ∧ SF (b + 1) rd1 ∧ (Rw (chn U n 3 S.1 (lstS 3 S s a0) 2) = false → Rf (chn U n 3 S.1 (lstS 3 S s a0) 2) = 0 → mS rd1 0 (LnF 3 (nus U n 3 S.1 (lstS 3 S s a0)) S))) τ)) = Q
  refine Ret.start pm_180 rfl ?_
  have fr : frm σ σ y (y + 4) := frm.rf
  have m_has : σ.2 (y + 2) = σ.2 (y + 2) := rfl
  refine Ev.aload_n rfl rfl ?_
  refine Ev.getf rfl rfl m0 rfl ?_
  refine Ev.iconst (v := 1) rfl (by decide) ?_
  refine Ev.ialdN (k := 1) rfl m_read (rfl : (1 : Int32) = nI 1) ⟨(by omega), by decide⟩ ?_
  rw [show rd 1 = nI tc from htc]
  refine Ev.iconst (v := 5) rfl (by decide) ?_
  refine Ev.jlt (tgt := 16) rfl (by decide) (fun c7 => ?_) (fun c7 => ?_)
  · skip
    have h5 : tc < 5 := (nI_ltI (a := tc) (b := 5) (by omega) (by decide)).mp c7
    refine Ev.aload_n rfl rfl ?_
    refine Ev.iconst (v := 1) rfl (by decide) ?_
    refine Ev.bipush (v := 63) rfl (by decide) ?_
    refine Ev.xV2 rfl rfl m0 rfl rfl (by decide) ⟨(Nat.le_refl _), (Nat.le_refl _)⟩ (m_numb_ok m0 m_all ht hA0 hst hok (lo := 1) (G := fun v => decide (1 ≤ v) && decide (v ≤ 63)) (K_in_G ⟨by decide, by decide⟩)) (fun τ901 f9 q9 => ?_)
    obtain ⟨g901, A901, m0, m_all, hst⟩ := q9
    have m_read := frm.cell f9 m_read (by omega)
    have m_has := frm.cell f9 m_has (by omega)
    have fr := fr.step f9 (by omega) (by omega)
    obtain ⟨s2, hs2⟩ : ∃ q, q = nst U n ((fun v => decide (1 ≤ v) && decide (v ≤ 63)) (tV U n (Re s))) s := ⟨_, rfl⟩
    obtain ⟨ab2, hab2⟩ : ∃ q, q = rab U n (fun v => decide (1 ≤ v) && decide (v ≤ 63)) ab s := ⟨_, rfl⟩
    obtain ⟨v2, hv2⟩ : ∃ q, q = rvl U n 1 (fun v => decide (1 ≤ v) && decide (v ≤ 63)) s := ⟨_, rfl⟩
    rw [← hs2, ← hab2] at hst
    rw [← hv2]
    have hok : Rok U n s2 := by
      rw [hs2]
      exact nst_ok ht hok
    have hr2 := rvl_le (U := U) (n := n) (lo := 1) (hi := 63) (s := s) (by decide)
    rw [← hv2] at hr2
    refine Ev.istore_n rfl rfl rfl ?_
    refine Ev.aload_n rfl rfl ?_
    refine Ev.iconst (v := 0) rfl (by decide) ?_
    refine Ev.iconst (v := 3) rfl (by decide) ?_
    refine Ev.xV2 rfl rfl m0 rfl rfl (by decide) ⟨(Nat.le_refl _), (Nat.le_refl _)⟩ (m_numb_ok m0 m_all ht hA0 hst hok (lo := 0) (G := fun v => decide (0 ≤ v) && decide (v ≤ 3)) (K_in_G ⟨by decide, by decide⟩)) (fun τ902 f9 q9 => ?_)
    obtain ⟨g902, A902, m0, m_all, hst⟩ := q9
    have m_read := frm.cell f9 m_read (by omega)
    have m_has := frm.cell f9 m_has (by omega)
    have fr := fr.step f9 (by omega) (by omega)
    obtain ⟨s3, hs3⟩ : ∃ q, q = nst U n ((fun v => decide (0 ≤ v) && decide (v ≤ 3)) (tV U n (Re s2))) s2 := ⟨_, rfl⟩
    obtain ⟨ab3, hab3⟩ : ∃ q, q = rab U n (fun v => decide (0 ≤ v) && decide (v ≤ 3)) ab2 s2 := ⟨_, rfl⟩
    obtain ⟨v3, hv3⟩ : ∃ q, q = rvl U n 0 (fun v => decide (0 ≤ v) && decide (v ≤ 3)) s2 := ⟨_, rfl⟩
    rw [← hs3, ← hab3] at hst
    rw [← hv3]
    have hok : Rok U n s3 := by
      rw [hs3]
      exact nst_ok ht hok
    have hr3 := rvl_le (U := U) (n := n) (lo := 0) (hi := 3) (s := s2) (by decide)
    rw [← hv3] at hr3
    refine Ev.istore_n rfl rfl rfl ?_
    refine Ev.aload_n rfl rfl ?_
    refine Ev.getf rfl rfl m0 rfl ?_
    refine Ev.iconst (v := 1) rfl (by decide) ?_
    refine Ev.ialdN (k := 1) rfl m_read (rfl : (1 : Int32) = nI 1) ⟨(by omega), by decide⟩ ?_
    rw [show rd 1 = nI tc from htc]
    refine Ev.iconst (v := 5) rfl (by decide) ?_
    refine Ev.jge (tgt := 71) rfl (by decide) (fun c38 => absurd c7 c38) (fun c38 => ?_)
    refine Ev.aload_n rfl rfl ?_
    refine Ev.getf rfl rfl m0 rfl ?_
    refine Ev.bipush (v := 93) rfl (by decide) ?_
    refine Ev.aload_n rfl rfl ?_
    refine Ev.getf rfl rfl m0 rfl ?_
    refine Ev.iconst (v := 1) rfl (by decide) ?_
    refine Ev.ialdN (k := 1) rfl m_read (rfl : (1 : Int32) = nI 1) ⟨(by omega), by decide⟩ ?_
    rw [show rd 1 = nI tc from htc]
    refine Ev.iadd rfl ?_
    refine Ev.iload_n rfl rfl ?_
    refine Ev.iastE (k := 93 + tc) rfl m_read (nq_add (a := 93) (b := tc) (rfl : (93 : Int32) = nI 93) rfl) ⟨(by omega), by decide⟩ (fun τ1 f1 m_read => ?_)
    have m0 := frm.cell f1 m0 (by omega)
    have m_all := frm.cell f1 m_all (by omega)
    have m_has := frm.cell f1 m_has (by omega)
    have fr := fr.step f1 (by omega) (by omega)
    refine Ev.aload_n rfl rfl ?_
    refine Ev.getf rfl rfl m0 rfl ?_
    refine Ev.bipush (v := 98) rfl (by decide) ?_
    refine Ev.aload_n rfl rfl ?_
    refine Ev.getf rfl rfl m0 rfl ?_
    refine Ev.iconst (v := 1) rfl (by decide) ?_
    refine Ev.ialdN (k := 1) rfl m_read (rfl : (1 : Int32) = nI 1) ⟨(by omega), by decide⟩ ?_
    rw [show (upd rd (93 + tc) (nI v2)) 1 = nI tc from (pk_un (by omega)).trans (htc)]
    refine Ev.iadd rfl ?_
    refine Ev.iload_n rfl rfl ?_
    refine Ev.iastE (k := 98 + tc) rfl m_read (nq_add (a := 98) (b := tc) (rfl : (98 : Int32) = nI 98) rfl) ⟨(by omega), by decide⟩ (fun τ2 f1 m_read => ?_)
    have m0 := frm.cell f1 m0 (by omega)
    have m_all := frm.cell f1 m_all (by omega)
    have m_has := frm.cell f1 m_has (by omega)
    have fr := fr.step f1 (by omega) (by omega)
    refine Ev.aload_n rfl rfl ?_
    refine Ev.getf rfl rfl m0 rfl ?_
    refine Ev.iconst (v := 1) rfl (by decide) ?_
    refine Ev.dup2 rfl rfl rfl ?_
    refine Ev.ialdN (k := 1) rfl m_read (rfl : (1 : Int32) = nI 1) ⟨(by omega), by decide⟩ ?_
    rw [show (upd (upd rd (93 + tc) (nI v2)) (98 + tc) (nI v3)) 1 = nI tc from (pk_un (by omega)).trans ((pk_un (by omega)).trans (htc))]
    refine Ev.iconst (v := 1) rfl (by decide) ?_
    refine Ev.iadd rfl ?_
    rw [show (nI tc) + (1 : Int32) = nI (tc + 1) from (nq_add (a := tc) (b := 1) rfl (rfl : (1 : Int32) = nI 1))]
    refine Ev.iastE (k := 1) rfl m_read (rfl : (1 : Int32) = nI 1) ⟨(by omega), by decide⟩ (fun τ3 f1 m_read => ?_)
    have m0 := frm.cell f1 m0 (by omega)
    have m_all := frm.cell f1 m_all (by omega)
    have m_has := frm.cell f1 m_has (by omega)
    have fr := fr.step f1 (by omega) (by omega)
    refine Ev.ret rfl rfl (Nat.le_refl _) (Nat.le_refl _) ?_
    have hws : lstS 3 S s a0 = s := by
      unfold lstS
      by_cases hf0 : Rf s = 0
      · have hLS : tc = S.2.1 := nI_injL (by omega) (by omega) (htc.symm.trans (hrd hf0).2.1)
        rw [if_neg (by omega)]
      · rw [rnt_f hf0]
        exact ite_self _
    have hch : chn U n 3 S.1 (lstS 3 S s a0) 2 = s3 := by
      rw [hws, hs3, hs2]
      rfl
    rw [← hQ, hch]
    refine ⟨rfl, fr, _, _, _, _, m0, m_all, m_read, m_has, hst, ?_, ?_⟩
    · exact (((hSF.mono (Nat.le_succ b)).put (by omega)).put (by omega)).cnt1 (by omega)
    · intro hw9 hf9
      rw [hs3] at hw9 hf9
      obtain ⟨w2, k2, f2, g2, -⟩ := nst_f0 hw9 hf9
      have q2 := f2
      have r2 := w2
      rw [hs2] at q2 r2
      obtain ⟨w1, k1, f1, g1, -⟩ := nst_f0 r2 q2
      have hm := hrd f1
      have hLS : tc = S.2.1 := nI_injL (by omega) (by omega) (htc.symm.trans hm.2.1)
      subst hLS
      rw [hv3, hv2, rvl_ok w2 k2 g2, rvl_ok w1 k1 g1]
      have e1 : chn U n 3 S.1 (lstS 3 S s a0) 1 = s2 := by rw [hws, hs2]; rfl
      have n0 : nus U n 3 S.1 (lstS 3 S s a0) 0 = tV U n (Re s) := by unfold nus; rw [hws]; rfl
      have n1 : nus U n 3 S.1 (lstS 3 S s a0) 1 = tV U n (Re s2) := by unfold nus; rw [e1]
      show mS _ 0 (Ln3 _ _ S)
      rw [n0, n1]
      exact mS_3 hm hn16 h5
  · skip
    refine Ev.aload_n rfl rfl ?_
    refine Ev.iconst (v := 3) rfl (by decide) ?_
    refine Ev.iload_n rfl rfl ?_
    refine Ev.xV2u rfl rfl m0 rfl rfl (by decide) ⟨(Nat.le_refl _), (Nat.le_refl _)⟩ (m_also_ok (k := 3) m0 m_all hst hok.2.1 (by decide) (by omega) (fun a b => by obtain ⟨q, q1, q2⟩ := hpa a b; exact ⟨q, q1, Or.inl q2⟩)) (fun τ901 f9 q9 => ?_)
    obtain ⟨g901, A901, m0, m_all, hst⟩ := q9
    have m_read := frm.cell f9 m_read (by omega)
    have m_has := frm.cell f9 m_has (by omega)
    have fr := fr.step f9 (by omega) (by omega)
    obtain ⟨s2, hs2⟩ : ∃ q, q = rnt s 3 a0 := ⟨_, rfl⟩
    rw [← hs2] at hst
    have hok : Rok U n s2 := by
      rw [hs2]
      exact rnt_ok hok (by decide) (fun _ => ha0)
    have h5 : 5 ≤ tc := Nat.le_of_not_lt (fun h => c7 (nI_lt (b := 5) h (by decide)))
    refine Ev.aload_n rfl rfl ?_
    refine Ev.iconst (v := 1) rfl (by decide) ?_
    refine Ev.bipush (v := 63) rfl (by decide) ?_
    refine Ev.xV2 rfl rfl m0 rfl rfl (by decide) ⟨(Nat.le_refl _), (Nat.le_refl _)⟩ (m_numb_ok m0 m_all ht hA0 hst hok (lo := 1) (G := fun v => decide (1 ≤ v) && decide (v ≤ 63)) (K_in_G ⟨by decide, by decide⟩)) (fun τ902 f9 q9 => ?_)
    obtain ⟨g902, A902, m0, m_all, hst⟩ := q9
    have m_read := frm.cell f9 m_read (by omega)
    have m_has := frm.cell f9 m_has (by omega)
    have fr := fr.step f9 (by omega) (by omega)
    obtain ⟨s3, hs3⟩ : ∃ q, q = nst U n ((fun v => decide (1 ≤ v) && decide (v ≤ 63)) (tV U n (Re s2))) s2 := ⟨_, rfl⟩
    obtain ⟨ab3, hab3⟩ : ∃ q, q = rab U n (fun v => decide (1 ≤ v) && decide (v ≤ 63)) ab s2 := ⟨_, rfl⟩
    obtain ⟨v3, hv3⟩ : ∃ q, q = rvl U n 1 (fun v => decide (1 ≤ v) && decide (v ≤ 63)) s2 := ⟨_, rfl⟩
    rw [← hs3, ← hab3] at hst
    rw [← hv3]
    have hok : Rok U n s3 := by
      rw [hs3]
      exact nst_ok ht hok
    have hr3 := rvl_le (U := U) (n := n) (lo := 1) (hi := 63) (s := s2) (by decide)
    rw [← hv3] at hr3
    refine Ev.istore_n rfl rfl rfl ?_
    refine Ev.aload_n rfl rfl ?_
    refine Ev.iconst (v := 0) rfl (by decide) ?_
    refine Ev.iconst (v := 3) rfl (by decide) ?_
    refine Ev.xV2 rfl rfl m0 rfl rfl (by decide) ⟨(Nat.le_refl _), (Nat.le_refl _)⟩ (m_numb_ok m0 m_all ht hA0 hst hok (lo := 0) (G := fun v => decide (0 ≤ v) && decide (v ≤ 3)) (K_in_G ⟨by decide, by decide⟩)) (fun τ903 f9 q9 => ?_)
    obtain ⟨g903, A903, m0, m_all, hst⟩ := q9
    have m_read := frm.cell f9 m_read (by omega)
    have m_has := frm.cell f9 m_has (by omega)
    have fr := fr.step f9 (by omega) (by omega)
    obtain ⟨s4, hs4⟩ : ∃ q, q = nst U n ((fun v => decide (0 ≤ v) && decide (v ≤ 3)) (tV U n (Re s3))) s3 := ⟨_, rfl⟩
    obtain ⟨ab4, hab4⟩ : ∃ q, q = rab U n (fun v => decide (0 ≤ v) && decide (v ≤ 3)) ab3 s3 := ⟨_, rfl⟩
    obtain ⟨v4, hv4⟩ : ∃ q, q = rvl U n 0 (fun v => decide (0 ≤ v) && decide (v ≤ 3)) s3 := ⟨_, rfl⟩
    rw [← hs4, ← hab4] at hst
    rw [← hv4]
    have hok : Rok U n s4 := by
      rw [hs4]
      exact nst_ok ht hok
    have hr4 := rvl_le (U := U) (n := n) (lo := 0) (hi := 3) (s := s3) (by decide)
    rw [← hv4] at hr4
    refine Ev.istore_n rfl rfl rfl ?_
    refine Ev.aload_n rfl rfl ?_
    refine Ev.getf rfl rfl m0 rfl ?_
    refine Ev.iconst (v := 1) rfl (by decide) ?_
    refine Ev.ialdN (k := 1) rfl m_read (rfl : (1 : Int32) = nI 1) ⟨(by omega), by decide⟩ ?_
    rw [show rd 1 = nI tc from htc]
    refine Ev.iconst (v := 5) rfl (by decide) ?_
    refine Ev.jge (tgt := 71) rfl (by decide) (fun c38 => ?_) (fun c38 => absurd c38 c7)
    refine Ev.aload_n rfl rfl ?_
    refine Ev.getf rfl rfl m0 rfl ?_
    refine Ev.iconst (v := 1) rfl (by decide) ?_
    refine Ev.dup2 rfl rfl rfl ?_
    refine Ev.ialdN (k := 1) rfl m_read (rfl : (1 : Int32) = nI 1) ⟨(by omega), by decide⟩ ?_
    rw [show rd 1 = nI tc from htc]
    refine Ev.iconst (v := 1) rfl (by decide) ?_
    refine Ev.iadd rfl ?_
    rw [show (nI tc) + (1 : Int32) = nI (tc + 1) from (nq_add (a := tc) (b := 1) rfl (rfl : (1 : Int32) = nI 1))]
    refine Ev.iastE (k := 1) rfl m_read (rfl : (1 : Int32) = nI 1) ⟨(by omega), by decide⟩ (fun τ4 f1 m_read => ?_)
    have m0 := frm.cell f1 m0 (by omega)
    have m_all := frm.cell f1 m_all (by omega)
    have m_has := frm.cell f1 m_has (by omega)
    have fr := fr.step f1 (by omega) (by omega)
    refine Ev.ret rfl rfl (Nat.le_refl _) (Nat.le_refl _) ?_
    have hws : lstS 3 S s a0 = s2 := by
      unfold lstS
      by_cases hf0 : Rf s = 0
      · have hLS : tc = S.2.1 := nI_injL (by omega) (by omega) (htc.symm.trans (hrd hf0).2.1)
        rw [if_pos (Or.inr ⟨rfl, by omega⟩), hs2]
      · rw [hs2, rnt_f hf0]
        exact ite_self _
    have hch : chn U n 3 S.1 (lstS 3 S s a0) 2 = s4 := by
      rw [hws, hs4, hs3]
      rfl
    rw [← hQ, hch]
    refine ⟨rfl, fr, _, _, _, _, m0, m_all, m_read, m_has, hst, ?_, ?_⟩
    · exact (hSF.mono (Nat.le_succ b)).cnt1 (by omega)
    · intro hw9 hf9
      rw [hs4] at hw9 hf9
      obtain ⟨w2, k2, f2, g2, -⟩ := nst_f0 hw9 hf9
      have q2 := f2
      have r2 := w2
      rw [hs3] at q2 r2
      obtain ⟨w1, k1, f1, g1, -⟩ := nst_f0 r2 q2
      rw [hs2] at f1
      exact absurd f1 (rnt_f0 (by decide))
theorem rab_ok {G : Nat → Bool} {ab : Bool} {s : Rs} (hw : Rw s = false) (hk : tK U n (Re s) = 1) (hg : G (tV U n (Re s)) = true) : rab U n G ab s = ab := by
  unfold rab
  rw [if_neg (fun h => h.elim (fun h => by rw [hw] at h; cases h) (fun h => h hk)), hg, Bool.and_true]
theorem m_tabL4_ok (m0 : σ.2 y = some (.inr (.inr (10, mo y g)))) (m_all : σ.2 (y + 1) = some (.inl (0, 4500, A))) {rd : Nat → Int32} (m_read : σ.2 (y + 3) = some (.inl (0, 120, rd))) (ht : txt U n) (hA0 : ∀ p, p < n → A0 (10 + p) = nI (U p)) (hst : MSt U n A0 A g s true) (hok : Rok U n s) (hwS : wS S) {b : Nat} (hb : b ≤ 600) (hSF : SF b rd) (hrd : Rf s = 0 → mS rd 0 S) : RetX Γ m_M_tableLine [.ref y, .int 1] σ y (y + 4) none (fun τ => ∃ (g1 A1 rd1 : Nat → Int32) (ab1 : Bool), τ.2 y = some (.inr (.inr (10, mo y g1))) ∧ τ.2 (y + 1) = some (.inl (0, 4500, A1)) ∧ τ.2 (y + 3) = some (.inl (0, 120, rd1)) ∧ τ.2 (y + 2) = σ.2 (y + 2) ∧ MSt U n A0 A1 g1 (chn U n 4 S.1 s 3) ab1 ∧ SF (b + 1) rd1 ∧ (Rw (chn U n 4 S.1 s 3) = false → Rf (chn U n 4 S.1 s 3) = 0 → mS rd1 0 (LnF 4 (nus U n 4 S.1 s) S))) := by
  have hn6 := ht.1
  have hn16 := hwS.1
  have hn5 := hwS.2.1
  have h600 := tS0_le ht hok.1
  obtain ⟨⟨L, hL, hLb⟩, ⟨tc, htc, htb⟩, hpt, ⟨ls, hls, hls1, hls2⟩⟩ := id hSF
  unfold RetX
  generalize hQ : ((fun (r0 : Option Value) (τ : ex_S) => r0 = none ∧ frm σ τ y (y + 4) ∧ (fun τ : ex_S => ∃ (g1 A1 rd1 : Nat → Int32) (ab1 : Bool), τ.2 y = some (.inr (.inr (10, mo y g1))) ∧ τ.2 (y + 1) = some (.inl (0, 4500, A1)) ∧ τ.2 (y + 3) = some (.inl (0, 120, rd1)) ∧ τ.2 (y + 2) = σ.2 (y + 2) ∧ MSt U n A0 A1 g1 (chn U n 4 S.1 s 3) ab1 ∧ SF (b + 1) rd1 ∧ (Rw (chn U n 4 S.1 s 3) = false → Rf (chn U n 4 S.1 s 3) = 0 → mS rd1 0 (LnF 4 (nus U n 4 S.1 s) S))) τ)) = Q
  refine Ret.start pm_181 rfl ?_
  have fr : frm σ σ y (y + 4) := frm.rf
  have m_has : σ.2 (y + 2) = σ.2 (y + 2) := rfl
  refine Ev.aload_n rfl rfl ?_
  refine Ev.iload_n rfl rfl ?_
  refine Ev.zeq (tgt := 9) rfl (by decide) (fun c2 => absurd c2 (by decide)) (fun c2 => ?_)
  refine Ev.iconst (v := 0) rfl (by decide) ?_
  refine Ev.goto (tgt := 10) rfl (by decide) ?_
  refine Ev.iconst (v := 3) rfl (by decide) ?_
  refine Ev.xV2 rfl rfl m0 rfl rfl (by decide) ⟨(Nat.le_refl _), (Nat.le_refl _)⟩ (m_numb_ok m0 m_all ht hA0 hst hok (lo := 0) (G := fun v => decide (0 ≤ v) && decide (v ≤ 3)) (K_in_G ⟨by decide, by decide⟩)) (fun τ901 f9 q9 => ?_)
  obtain ⟨g901, A901, m0, m_all, hst⟩ := q9
  have m_read := frm.cell f9 m_read (by omega)
  have m_has := frm.cell f9 m_has (by omega)
  have fr := fr.step f9 (by omega) (by omega)
  obtain ⟨s2, hs2⟩ : ∃ q, q = nst U n ((fun v => decide (0 ≤ v) && decide (v ≤ 3)) (tV U n (Re s))) s := ⟨_, rfl⟩
  obtain ⟨ab2, hab2⟩ : ∃ q, q = rab U n (fun v => decide (0 ≤ v) && decide (v ≤ 3)) true s := ⟨_, rfl⟩
  obtain ⟨v2, hv2⟩ : ∃ q, q = rvl U n 0 (fun v => decide (0 ≤ v) && decide (v ≤ 3)) s := ⟨_, rfl⟩
  rw [← hs2, ← hab2] at hst
  rw [← hv2]
  have hok : Rok U n s2 := by
    rw [hs2]
    exact nst_ok ht hok
  have hr2 := rvl_le (U := U) (n := n) (lo := 0) (hi := 3) (s := s) (by decide)
  rw [← hv2] at hr2
  refine Ev.istore_n rfl rfl rfl ?_
  refine Ev.aload_n rfl rfl ?_
  refine Ev.iconst (v := 0) rfl (by decide) ?_
  refine Ev.bipush (v := 99) rfl (by decide) ?_
  refine Ev.xV2 rfl rfl m0 rfl rfl (by decide) ⟨(Nat.le_refl _), (Nat.le_refl _)⟩ (m_numb_ok m0 m_all ht hA0 hst hok (lo := 0) (G := fun v => decide (0 ≤ v) && decide (v ≤ 99)) (K_in_G ⟨by decide, by decide⟩)) (fun τ902 f9 q9 => ?_)
  obtain ⟨g902, A902, m0, m_all, hst⟩ := q9
  have m_read := frm.cell f9 m_read (by omega)
  have m_has := frm.cell f9 m_has (by omega)
  have fr := fr.step f9 (by omega) (by omega)
  obtain ⟨s3, hs3⟩ : ∃ q, q = nst U n ((fun v => decide (0 ≤ v) && decide (v ≤ 99)) (tV U n (Re s2))) s2 := ⟨_, rfl⟩
  obtain ⟨ab3, hab3⟩ : ∃ q, q = rab U n (fun v => decide (0 ≤ v) && decide (v ≤ 99)) ab2 s2 := ⟨_, rfl⟩
  obtain ⟨v3, hv3⟩ : ∃ q, q = rvl U n 0 (fun v => decide (0 ≤ v) && decide (v ≤ 99)) s2 := ⟨_, rfl⟩
  rw [← hs3, ← hab3] at hst
  rw [← hv3]
  have hok : Rok U n s3 := by
    rw [hs3]
    exact nst_ok ht hok
  have hr3 := rvl_le (U := U) (n := n) (lo := 0) (hi := 99) (s := s2) (by decide)
  rw [← hv3] at hr3
  refine Ev.istore_n rfl rfl rfl ?_
  refine Ev.aload_n rfl rfl ?_
  refine Ev.iconst (v := 0) rfl (by decide) ?_
  refine Ev.bipush (v := 100) rfl (by decide) ?_
  refine Ev.xV2 rfl rfl m0 rfl rfl (by decide) ⟨(Nat.le_refl _), (Nat.le_refl _)⟩ (m_numb_ok m0 m_all ht hA0 hst hok (lo := 0) (G := fun v => decide (0 ≤ v) && decide (v ≤ 100)) (K_in_G ⟨by decide, by decide⟩)) (fun τ903 f9 q9 => ?_)
  obtain ⟨g903, A903, m0, m_all, hst⟩ := q9
  have m_read := frm.cell f9 m_read (by omega)
  have m_has := frm.cell f9 m_has (by omega)
  have fr := fr.step f9 (by omega) (by omega)
  obtain ⟨s4, hs4⟩ : ∃ q, q = nst U n ((fun v => decide (0 ≤ v) && decide (v ≤ 100)) (tV U n (Re s3))) s3 := ⟨_, rfl⟩
  obtain ⟨ab4, hab4⟩ : ∃ q, q = rab U n (fun v => decide (0 ≤ v) && decide (v ≤ 100)) ab3 s3 := ⟨_, rfl⟩
  obtain ⟨v4, hv4⟩ : ∃ q, q = rvl U n 0 (fun v => decide (0 ≤ v) && decide (v ≤ 100)) s3 := ⟨_, rfl⟩
  rw [← hs4, ← hab4] at hst
  rw [← hv4]
  have hok : Rok U n s4 := by
    rw [hs4]
    exact nst_ok ht hok
  have hr4 := rvl_le (U := U) (n := n) (lo := 0) (hi := 100) (s := s3) (by decide)
  rw [← hv4] at hr4
  refine Ev.istore rfl rfl rfl ?_
  refine Ev.aload_n rfl rfl ?_
  refine Ev.getf rfl rfl m0 rfl ?_
  rw [hst.2.2.2.2.2.2]
  refine Ev.zne (tgt := 40) rfl (by decide) (fun c36 => ?_) (fun c36 => ?_)
  · skip
    refine Ev.aload_n rfl rfl ?_
    refine Ev.getf rfl rfl m0 rfl ?_
    refine Ev.bipush (v := 106) rfl (by decide) ?_
    refine Ev.iload_n rfl rfl ?_
    refine Ev.zeq (tgt := 54) rfl (by decide) (fun c47 => absurd c47 (by decide)) (fun c47 => ?_)
    refine Ev.iload_n rfl rfl ?_
    refine Ev.goto (tgt := 56) rfl (by decide) ?_
    refine Ev.iadd rfl ?_
    rw [show (106 : Int32) + nI v2 = nI (106 + v2) from nq_add (a := 106) (b := v2) rfl rfl]
    refine Ev.iload_n rfl rfl ?_
    refine Ev.iastE (k := 106 + v2) rfl m_read rfl ⟨(by omega), by decide⟩ (fun τ1 f1 m_read => ?_)
    have m0 := frm.cell f1 m0 (by omega)
    have m_all := frm.cell f1 m_all (by omega)
    have m_has := frm.cell f1 m_has (by omega)
    have fr := fr.step f1 (by omega) (by omega)
    refine Ev.aload_n rfl rfl ?_
    refine Ev.getf rfl rfl m0 rfl ?_
    refine Ev.bipush (v := 113) rfl (by decide) ?_
    refine Ev.iload_n rfl rfl ?_
    refine Ev.zeq (tgt := 73) rfl (by decide) (fun c66 => absurd c66 (by decide)) (fun c66 => ?_)
    refine Ev.iload_n rfl rfl ?_
    refine Ev.goto (tgt := 75) rfl (by decide) ?_
    refine Ev.iadd rfl ?_
    rw [show (113 : Int32) + nI v2 = nI (113 + v2) from nq_add (a := 113) (b := v2) rfl rfl]
    refine Ev.iload rfl rfl ?_
    refine Ev.iastE (k := 113 + v2) rfl m_read rfl ⟨(by omega), by decide⟩ (fun τ2 f1 m_read => ?_)
    have m0 := frm.cell f1 m0 (by omega)
    have m_all := frm.cell f1 m_all (by omega)
    have m_has := frm.cell f1 m_has (by omega)
    have fr := fr.step f1 (by omega) (by omega)
    refine Ev.ret rfl rfl (Nat.le_refl _) (Nat.le_refl _) ?_
    have hch : chn U n 4 S.1 s 3 = s4 := by
      rw [hs4, hs3, hs2]
      rfl
    rw [← hQ, hch]
    refine ⟨rfl, fr, _, _, _, _, m0, m_all, m_read, m_has, hst, ?_, ?_⟩
    · exact ((hSF.mono (Nat.le_succ b)).put (by omega)).put (by omega)
    · intro hw9 hf9
      rw [hs4] at hw9 hf9
      obtain ⟨w3, k3, f3, g3, -⟩ := nst_f0 hw9 hf9
      have q3 := f3
      have r3 := w3
      rw [hs3] at q3 r3
      obtain ⟨w2, k2, f2, g2, -⟩ := nst_f0 r3 q3
      have q2 := f2
      have r2 := w2
      rw [hs2] at q2 r2
      obtain ⟨w1, k1, f1, g1, -⟩ := nst_f0 r2 q2
      have hm := hrd f1
      have e1 : chn U n 4 S.1 s 1 = s2 := by rw [hs2]; rfl
      have e2 : chn U n 4 S.1 s 2 = s3 := by rw [hs3, hs2]; rfl
      have n0 : nus U n 4 S.1 s 0 = tV U n (Re s) := rfl
      have n1 : nus U n 4 S.1 s 1 = tV U n (Re s2) := by unfold nus; rw [e1]
      have n2 : nus U n 4 S.1 s 2 = tV U n (Re s3) := by unfold nus; rw [e2]
      have u2 : v2 = tV U n (Re s) := by rw [hv2, rvl_ok w1 k1 g1]
      have u3 : v3 = tV U n (Re s2) := by rw [hv3, rvl_ok w2 k2 g2]
      have u4 : v4 = tV U n (Re s3) := by rw [hv4, rvl_ok w3 k3 g3]
      show mS _ 0 (Ln4 _ _ _ S)
      rw [n0, n1, n2, ← u2, ← u3, ← u4]
      have := mS_4 (d := 3 + v2) (b := v3) (c := v4) hm hn16 hn5 (by omega)
      rwa [show 103 + (3 + v2) = 106 + v2 by omega, show 110 + (3 + v2) = 113 + v2 by omega] at this
  · skip
    refine Ev.ret rfl rfl (Nat.le_refl _) (Nat.le_refl _) ?_
    have hch : chn U n 4 S.1 s 3 = s4 := by
      rw [hs4, hs3, hs2]
      rfl
    rw [← hQ, hch]
    refine ⟨rfl, fr, _, _, _, _, m0, m_all, m_read, m_has, hst, ?_, ?_⟩
    · exact hSF.mono (Nat.le_succ b)
    · intro hw9 hf9
      rw [hs4] at hw9 hf9
      obtain ⟨w3, k3, f3, g3, -⟩ := nst_f0 hw9 hf9
      have q3 := f3
      have r3 := w3
      rw [hs3] at q3 r3
      obtain ⟨w2, k2, f2, g2, -⟩ := nst_f0 r3 q3
      have q2 := f2
      have r2 := w2
      rw [hs2] at q2 r2
      obtain ⟨w1, k1, f1, g1, -⟩ := nst_f0 r2 q2
      have ha := b00 c36
      rw [hab4, rab_ok w3 k3 g3, hab3, rab_ok w2 k2 g2, hab2, rab_ok w1 k1 g1] at ha
      cases ha
theorem nq_dec2 {a b : Nat} (h : b ≤ a) : nI a + -nI b = nI (a - b) := by
  rw [← Int32.sub_eq_add_neg]
  exact pk_sub h
theorem m_tabL5_ok (m0 : σ.2 y = some (.inr (.inr (10, mo y g)))) (m_all : σ.2 (y + 1) = some (.inl (0, 4500, A))) {rd : Nat → Int32} (m_read : σ.2 (y + 3) = some (.inl (0, 120, rd))) (ht : txt U n) (hA0 : ∀ p, p < n → A0 (10 + p) = nI (U p)) (hst : MSt U n A0 A g s true) (hok : Rok U n s) (hwS : wS S) {b : Nat} (hb : b ≤ 600) (hSF : SF b rd) (hrd : Rf s = 0 → mS rd 0 S) : RetX Γ m_M_tableLine [.ref y, .int 0] σ y (y + 4) none (fun τ => ∃ (g1 A1 rd1 : Nat → Int32) (ab1 : Bool), τ.2 y = some (.inr (.inr (10, mo y g1))) ∧ τ.2 (y + 1) = some (.inl (0, 4500, A1)) ∧ τ.2 (y + 3) = some (.inl (0, 120, rd1)) ∧ τ.2 (y + 2) = σ.2 (y + 2) ∧ MSt U n A0 A1 g1 (chn U n 5 S.1 s 3) ab1 ∧ SF (b + 1) rd1 ∧ (Rw (chn U n 5 S.1 s 3) = false → Rf (chn U n 5 S.1 s 3) = 0 → mS rd1 0 (LnF 5 (nus U n 5 S.1 s) S))) := by
  have hn6 := ht.1
  have hn16 := hwS.1
  have hn5 := hwS.2.1
  have h600 := tS0_le ht hok.1
  obtain ⟨⟨L, hL, hLb⟩, ⟨tc, htc, htb⟩, hpt, ⟨ls, hls, hls1, hls2⟩⟩ := id hSF
  unfold RetX
  generalize hQ : ((fun (r0 : Option Value) (τ : ex_S) => r0 = none ∧ frm σ τ y (y + 4) ∧ (fun τ : ex_S => ∃ (g1 A1 rd1 : Nat → Int32) (ab1 : Bool), τ.2 y = some (.inr (.inr (10, mo y g1))) ∧ τ.2 (y + 1) = some (.inl (0, 4500, A1)) ∧ τ.2 (y + 3) = some (.inl (0, 120, rd1)) ∧ τ.2 (y + 2) = σ.2 (y + 2) ∧ MSt U n A0 A1 g1 (chn U n 5 S.1 s 3) ab1 ∧ SF (b + 1) rd1 ∧ (Rw (chn U n 5 S.1 s 3) = false → Rf (chn U n 5 S.1 s 3) = 0 → mS rd1 0 (LnF 5 (nus U n 5 S.1 s) S))) τ)) = Q
  refine Ret.start pm_181 rfl ?_
  have fr : frm σ σ y (y + 4) := frm.rf
  have m_has : σ.2 (y + 2) = σ.2 (y + 2) := rfl
  refine Ev.aload_n rfl rfl ?_
  refine Ev.iload_n rfl rfl ?_
  refine Ev.zeq (tgt := 9) rfl (by decide) (fun c2 => ?_) (fun c2 => absurd (by decide) c2)
  refine Ev.iconst (v := 1) rfl (by decide) ?_
  refine Ev.iconst (v := 3) rfl (by decide) ?_
  refine Ev.xV2 rfl rfl m0 rfl rfl (by decide) ⟨(Nat.le_refl _), (Nat.le_refl _)⟩ (m_numb_ok m0 m_all ht hA0 hst hok (lo := 1) (G := fun v => decide (1 ≤ v) && decide (v ≤ 3)) (K_in_G ⟨by decide, by decide⟩)) (fun τ901 f9 q9 => ?_)
  obtain ⟨g901, A901, m0, m_all, hst⟩ := q9
  have m_read := frm.cell f9 m_read (by omega)
  have m_has := frm.cell f9 m_has (by omega)
  have fr := fr.step f9 (by omega) (by omega)
  obtain ⟨s2, hs2⟩ : ∃ q, q = nst U n ((fun v => decide (1 ≤ v) && decide (v ≤ 3)) (tV U n (Re s))) s := ⟨_, rfl⟩
  obtain ⟨ab2, hab2⟩ : ∃ q, q = rab U n (fun v => decide (1 ≤ v) && decide (v ≤ 3)) true s := ⟨_, rfl⟩
  obtain ⟨v2, hv2⟩ : ∃ q, q = rvl U n 1 (fun v => decide (1 ≤ v) && decide (v ≤ 3)) s := ⟨_, rfl⟩
  rw [← hs2, ← hab2] at hst
  rw [← hv2]
  have hok : Rok U n s2 := by
    rw [hs2]
    exact nst_ok ht hok
  have hr2 := rvl_le (U := U) (n := n) (lo := 1) (hi := 3) (s := s) (by decide)
  rw [← hv2] at hr2
  refine Ev.istore_n rfl rfl rfl ?_
  refine Ev.aload_n rfl rfl ?_
  refine Ev.iconst (v := 0) rfl (by decide) ?_
  refine Ev.bipush (v := 99) rfl (by decide) ?_
  refine Ev.xV2 rfl rfl m0 rfl rfl (by decide) ⟨(Nat.le_refl _), (Nat.le_refl _)⟩ (m_numb_ok m0 m_all ht hA0 hst hok (lo := 0) (G := fun v => decide (0 ≤ v) && decide (v ≤ 99)) (K_in_G ⟨by decide, by decide⟩)) (fun τ902 f9 q9 => ?_)
  obtain ⟨g902, A902, m0, m_all, hst⟩ := q9
  have m_read := frm.cell f9 m_read (by omega)
  have m_has := frm.cell f9 m_has (by omega)
  have fr := fr.step f9 (by omega) (by omega)
  obtain ⟨s3, hs3⟩ : ∃ q, q = nst U n ((fun v => decide (0 ≤ v) && decide (v ≤ 99)) (tV U n (Re s2))) s2 := ⟨_, rfl⟩
  obtain ⟨ab3, hab3⟩ : ∃ q, q = rab U n (fun v => decide (0 ≤ v) && decide (v ≤ 99)) ab2 s2 := ⟨_, rfl⟩
  obtain ⟨v3, hv3⟩ : ∃ q, q = rvl U n 0 (fun v => decide (0 ≤ v) && decide (v ≤ 99)) s2 := ⟨_, rfl⟩
  rw [← hs3, ← hab3] at hst
  rw [← hv3]
  have hok : Rok U n s3 := by
    rw [hs3]
    exact nst_ok ht hok
  have hr3 := rvl_le (U := U) (n := n) (lo := 0) (hi := 99) (s := s2) (by decide)
  rw [← hv3] at hr3
  refine Ev.istore_n rfl rfl rfl ?_
  refine Ev.aload_n rfl rfl ?_
  refine Ev.iconst (v := 0) rfl (by decide) ?_
  refine Ev.bipush (v := 100) rfl (by decide) ?_
  refine Ev.xV2 rfl rfl m0 rfl rfl (by decide) ⟨(Nat.le_refl _), (Nat.le_refl _)⟩ (m_numb_ok m0 m_all ht hA0 hst hok (lo := 0) (G := fun v => decide (0 ≤ v) && decide (v ≤ 100)) (K_in_G ⟨by decide, by decide⟩)) (fun τ903 f9 q9 => ?_)
  obtain ⟨g903, A903, m0, m_all, hst⟩ := q9
  have m_read := frm.cell f9 m_read (by omega)
  have m_has := frm.cell f9 m_has (by omega)
  have fr := fr.step f9 (by omega) (by omega)
  obtain ⟨s4, hs4⟩ : ∃ q, q = nst U n ((fun v => decide (0 ≤ v) && decide (v ≤ 100)) (tV U n (Re s3))) s3 := ⟨_, rfl⟩
  obtain ⟨ab4, hab4⟩ : ∃ q, q = rab U n (fun v => decide (0 ≤ v) && decide (v ≤ 100)) ab3 s3 := ⟨_, rfl⟩
  obtain ⟨v4, hv4⟩ : ∃ q, q = rvl U n 0 (fun v => decide (0 ≤ v) && decide (v ≤ 100)) s3 := ⟨_, rfl⟩
  rw [← hs4, ← hab4] at hst
  rw [← hv4]
  have hok : Rok U n s4 := by
    rw [hs4]
    exact nst_ok ht hok
  have hr4 := rvl_le (U := U) (n := n) (lo := 0) (hi := 100) (s := s3) (by decide)
  rw [← hv4] at hr4
  refine Ev.istore rfl rfl rfl ?_
  refine Ev.aload_n rfl rfl ?_
  refine Ev.getf rfl rfl m0 rfl ?_
  rw [hst.2.2.2.2.2.2]
  refine Ev.zne (tgt := 40) rfl (by decide) (fun c36 => ?_) (fun c36 => ?_)
  · skip
    refine Ev.aload_n rfl rfl ?_
    refine Ev.getf rfl rfl m0 rfl ?_
    refine Ev.bipush (v := 106) rfl (by decide) ?_
    refine Ev.iload_n rfl rfl ?_
    refine Ev.zeq (tgt := 54) rfl (by decide) (fun c47 => ?_) (fun c47 => absurd (by decide) c47)
    refine Ev.iload_n rfl rfl ?_
    refine Ev.ineg rfl ?_
    refine Ev.iadd rfl ?_
    rw [show (106 : Int32) + -nI v2 = nI (106 - v2) from nq_dec2 (a := 106) (b := v2) (by omega)]
    refine Ev.iload_n rfl rfl ?_
    refine Ev.iastE (k := 106 - v2) rfl m_read rfl ⟨(by omega), by decide⟩ (fun τ1 f1 m_read => ?_)
    have m0 := frm.cell f1 m0 (by omega)
    have m_all := frm.cell f1 m_all (by omega)
    have m_has := frm.cell f1 m_has (by omega)
    have fr := fr.step f1 (by omega) (by omega)
    refine Ev.aload_n rfl rfl ?_
    refine Ev.getf rfl rfl m0 rfl ?_
    refine Ev.bipush (v := 113) rfl (by decide) ?_
    refine Ev.iload_n rfl rfl ?_
    refine Ev.zeq (tgt := 73) rfl (by decide) (fun c66 => ?_) (fun c66 => absurd (by decide) c66)
    refine Ev.iload_n rfl rfl ?_
    refine Ev.ineg rfl ?_
    refine Ev.iadd rfl ?_
    rw [show (113 : Int32) + -nI v2 = nI (113 - v2) from nq_dec2 (a := 113) (b := v2) (by omega)]
    refine Ev.iload rfl rfl ?_
    refine Ev.iastE (k := 113 - v2) rfl m_read rfl ⟨(by omega), by decide⟩ (fun τ2 f1 m_read => ?_)
    have m0 := frm.cell f1 m0 (by omega)
    have m_all := frm.cell f1 m_all (by omega)
    have m_has := frm.cell f1 m_has (by omega)
    have fr := fr.step f1 (by omega) (by omega)
    refine Ev.ret rfl rfl (Nat.le_refl _) (Nat.le_refl _) ?_
    have hch : chn U n 5 S.1 s 3 = s4 := by
      rw [hs4, hs3, hs2]
      rfl
    rw [← hQ, hch]
    refine ⟨rfl, fr, _, _, _, _, m0, m_all, m_read, m_has, hst, ?_, ?_⟩
    · exact ((hSF.mono (Nat.le_succ b)).put (by omega)).put (by omega)
    · intro hw9 hf9
      rw [hs4] at hw9 hf9
      obtain ⟨w3, k3, f3, g3, -⟩ := nst_f0 hw9 hf9
      have q3 := f3
      have r3 := w3
      rw [hs3] at q3 r3
      obtain ⟨w2, k2, f2, g2, -⟩ := nst_f0 r3 q3
      have q2 := f2
      have r2 := w2
      rw [hs2] at q2 r2
      obtain ⟨w1, k1, f1, g1, -⟩ := nst_f0 r2 q2
      have hm := hrd f1
      have e1 : chn U n 5 S.1 s 1 = s2 := by rw [hs2]; rfl
      have e2 : chn U n 5 S.1 s 2 = s3 := by rw [hs3, hs2]; rfl
      have n0 : nus U n 5 S.1 s 0 = tV U n (Re s) := rfl
      have n1 : nus U n 5 S.1 s 1 = tV U n (Re s2) := by unfold nus; rw [e1]
      have n2 : nus U n 5 S.1 s 2 = tV U n (Re s3) := by unfold nus; rw [e2]
      have u2 : v2 = tV U n (Re s) := by rw [hv2, rvl_ok w1 k1 g1]
      have u3 : v3 = tV U n (Re s2) := by rw [hv3, rvl_ok w2 k2 g2]
      have u4 : v4 = tV U n (Re s3) := by rw [hv4, rvl_ok w3 k3 g3]
      show mS _ 0 (Ln4 _ _ _ S)
      rw [n0, n1, n2, ← u2, ← u3, ← u4]
      have := mS_4 (d := 3 - v2) (b := v3) (c := v4) hm hn16 hn5 (by omega)
      rwa [show 103 + (3 - v2) = 106 - v2 by omega, show 110 + (3 - v2) = 113 - v2 by omega] at this
  · skip
    refine Ev.ret rfl rfl (Nat.le_refl _) (Nat.le_refl _) ?_
    have hch : chn U n 5 S.1 s 3 = s4 := by
      rw [hs4, hs3, hs2]
      rfl
    rw [← hQ, hch]
    refine ⟨rfl, fr, _, _, _, _, m0, m_all, m_read, m_has, hst, ?_, ?_⟩
    · exact hSF.mono (Nat.le_succ b)
    · intro hw9 hf9
      rw [hs4] at hw9 hf9
      obtain ⟨w3, k3, f3, g3, -⟩ := nst_f0 hw9 hf9
      have q3 := f3
      have r3 := w3
      rw [hs3] at q3 r3
      obtain ⟨w2, k2, f2, g2, -⟩ := nst_f0 r3 q3
      have q2 := f2
      have r2 := w2
      rw [hs2] at q2 r2
      obtain ⟨w1, k1, f1, g1, -⟩ := nst_f0 r2 q2
      have ha := b00 c36
      rw [hab4, rab_ok w3 k3 g3, hab3, rab_ok w2 k2 g2, hab2, rab_ok w1 k1 g1] at ha
      cases ha
end
end
