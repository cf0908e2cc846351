/-! Texts (class): a text is read. -/
noncomputable section
section
variable {Γ : ex_G} {σ : ex_S} {x q a p y : Nat} {S : Sch} {T : Tol} {P : Pln} {g A : Nat → Int32}
variable {P : Pln} {U : Nat → Nat} {n r b : Nat} {s : Rs} {c : Nat → Int32}
theorem wk_wi : ∀ w, 15 ≤ w → w ≤ 20 → ∃ i, i < 6 ∧ 15 + i = wkP w ∧ w = wnP i := by
  have h : ∀ w, w < 21 → 15 ≤ w → wkP w - 15 < 6 ∧ 15 + (wkP w - 15) = wkP w ∧ w = wnP (wkP w - 15) := by decide
  exact fun w h1 h2 => ⟨_, h w (by omega) h1⟩
theorem rdL_pl (ht : txt U n) (hc : cbt U n c) (h_tp : σ.2 b = some (.inl (1, 600, c))) (hbr : b < r ∨ r + 21 ≤ b) {tk0 en0 va0 si : Int32} (h_rd : σ.2 r = some (.inr (.inr (5, [.ref (r + 1), .ref (r + 12), .int (nI (Rf s)), .int (Rp s), .ref b, .int (nI n), .int tk0, .int (nI (tS0 U n (Re s))), .int en0, .int va0, .ref (r + 20), .int si])))) {nu : Nat → Int32} (h_nu : σ.2 (r + 20) = some (.inl (0, 4, nu))) (hcs : csc U n (Re s) tk0 en0 va0) (hok : Rok U n s) (hw : Rw s = false) (hR : rdst Γ) (hS : isS σ (r + 1) S) (hP : isP σ (r + 12) P) (hn16 : S.1 ≤ 16) (hn5 : S.2.1 ≤ 5) (h6 : P.1 ≤ 6) (hwt : wtx Γ 1 31 (fun k => wdP.getD k 0)) (hC : tK U n (Re s) = 3 ∧ 15 ≤ tW U n (Re s) ∧ tW U n (Re s) ≤ 20) : RetX Γ m_Reader_readLine [.ref r, .int 0] σ r (r + 21) (some (.int (if Rw (rel U n (lpE U n (wkP (tW U n (Re s))) P s)) = true then 0 else 1))) (fun τ => ∃ (fa pl tk0 st0 en0 va0 si : Int32) (nu1 : Nat → Int32) (P1 : Pln), τ.2 r = some (.inr (.inr (5, [.ref (r + 1), .ref (r + 12), .int fa, .int pl, .ref b, .int (nI n), .int tk0, .int st0, .int en0, .int va0, .ref (r + 20), .int si]))) ∧ τ.2 (r + 20) = some (.inl (0, 4, nu1)) ∧ isS τ (r + 1) S ∧ isP τ (r + 12) P1 ∧ (Rw (rel U n (lpE U n (wkP (tW U n (Re s))) P s)) = true → st0 = nI (tS0 U n (Re (rel U n (lpE U n (wkP (tW U n (Re s))) P s))))) ∧ (Rw (rel U n (lpE U n (wkP (tW U n (Re s))) P s)) = false → fa = nI (Rf (rel U n (lpE U n (wkP (tW U n (Re s))) P s))) ∧ pl = Rp (rel U n (lpE U n (wkP (tW U n (Re s))) P s)) ∧ en0 = nI (Re (rel U n (lpE U n (wkP (tW U n (Re s))) P s))) ∧ P1 = if Rf (rel U n (lpE U n (wkP (tW U n (Re s))) P s)) = 0 then LpF U n (wkP (tW U n (Re s))) P s else P)) := by
  obtain ⟨i, i1, i2, i3⟩ := wk_wi _ hC.2.1 hC.2.2
  by_cases e : wkP (tW U n (Re s)) = 20
  · have h := rdL_q ht hc h_tp hbr h_rd h_nu hcs hok hw hR hS hP hn16 hn5 h6 hwt i1 (i2.trans e) hC.1 i3
    unfold lpE LpF
    rw [if_pos e, if_pos e]
    exact h
  · have hr := wkP_r _ hC.2.1 hC.2.2
    have h := rdL_k ht hc h_tp hbr h_rd h_nu hcs hok hw hR hS hP hn16 hn5 h6 hwt i1 i2 hC.1 i3 ⟨hr.1, by omega⟩
    unfold lpE LpF
    rw [if_neg e, if_neg e]
    exact h
theorem read_s (ht : txt U n) (hc : cbt U n c) (h_tp : σ.2 b = some (.inl (1, 600, c))) (hbr : b < r ∨ r + 21 ≤ b) {fa pl ln0 tk0 st0 en0 va0 si : Int32} {tv : Value} (h_rd : σ.2 r = some (.inr (.inr (5, [.ref (r + 1), .ref (r + 12), .int fa, .int pl, tv, .int ln0, .int tk0, .int st0, .int en0, .int va0, .ref (r + 20), .int si])))) {nu : Nat → Int32} (h_nu : σ.2 (r + 20) = some (.inl (0, 4, nu))) {S0 : Sch} {P0 : Pln} (hS : isS σ (r + 1) S0) (hP : isP σ (r + 12) P0) (hR : rdst Γ) (hFR : frst Γ) (hwt : wtx Γ 0 90 (fun k => wdS.getD k 0)) {m : Nat} (hm : tEnd U n (fun i => (qS U n (clS S0) i).1) m) : RetX Γ m_Reader_read [.ref r, .ref b, .int (nI n), .int 1] σ r (r + 21) none (fun τ => ∃ (tk0 st0 en0 va0 si : Int32) (nu1 : Nat → Int32) (S1 : Sch) (P1 : Pln), τ.2 r = some (.inr (.inr (5, [.ref (r + 1), .ref (r + 12), .int (nI (if Rw (qS U n (clS S0) m).1 = true then 1 else Rf (qS U n (clS S0) m).1)), .int (if Rw (qS U n (clS S0) m).1 = true then nI (tS0 U n (Re (qS U n (clS S0) m).1)) else Rp (qS U n (clS S0) m).1), .ref b, .int (nI n), .int tk0, .int st0, .int en0, .int va0, .ref (r + 20), .int si]))) ∧ τ.2 (r + 20) = some (.inl (0, 4, nu1)) ∧ isS τ (r + 1) S1 ∧ isP τ (r + 12) P1 ∧ (Rw (qS U n (clS S0) m).1 = false → S1 = (qS U n (clS S0) m).2)) := by
  have hn6 := ht.1
  have hm : tEnd U n (fun i => (qS U n (clS S0) i).1) m := hm
  have hwq : ∀ i, i ≤ m → wS (qS U n (clS S0) i).2 := by
    intro i
    induction i with
    | zero => exact fun _ => clS_wS S0
    | succ i ih => exact fun hi => stS_wS ht (hm.2.2.1 i (by omega)) (hm.1 i (by omega)).1 (hm.1 i (by omega)).2 (ih (by omega))
  unfold RetX
  generalize hQ : ((fun (r0 : Option Value) (τ : ex_S) => r0 = none ∧ frm σ τ r (r + 21) ∧ (fun τ : ex_S => ∃ (tk0 st0 en0 va0 si : Int32) (nu1 : Nat → Int32) (S1 : Sch) (P1 : Pln), τ.2 r = some (.inr (.inr (5, [.ref (r + 1), .ref (r + 12), .int (nI (if Rw (qS U n (clS S0) m).1 = true then 1 else Rf (qS U n (clS S0) m).1)), .int (if Rw (qS U n (clS S0) m).1 = true then nI (tS0 U n (Re (qS U n (clS S0) m).1)) else Rp (qS U n (clS S0) m).1), .ref b, .int (nI n), .int tk0, .int st0, .int en0, .int va0, .ref (r + 20), .int si]))) ∧ τ.2 (r + 20) = some (.inl (0, 4, nu1)) ∧ isS τ (r + 1) S1 ∧ isP τ (r + 12) P1 ∧ (Rw (qS U n (clS S0) m).1 = false → S1 = (qS U n (clS S0) m).2)) τ)) = Q
  refine Ret.start pm_117 rfl ?_
  have fr : frm σ σ r (r + 21) := frm.rf
  refine Ev.aload_n rfl rfl ?_
  refine Ev.aload_n rfl rfl ?_
  refine Ev.putE rfl rfl h_rd rfl rfl rfl (Nat.le_of_ble_eq_true rfl) (fun τ1 f1 h_rd => ?_)
  replace h_rd : τ1.2 r = some (.inr (.inr (5, [(.ref (r + 1)), (.ref (r + 12)), (.int fa), (.int pl), (.ref b), (.int ln0), (.int tk0), (.int st0), (.int en0), (.int va0), (.ref (r + 20)), (.int si)]))) := h_rd
  have h_nu := frm.cell f1 h_nu (by omega)
  have h_tp := frm.cell f1 h_tp (by omega)
  have hS := hS.frm f1 (by omega)
  have hP := hP.frm f1 (by omega)
  have fr := fr.step f1 (by omega) (by omega)
  refine Ev.aload_n rfl rfl ?_
  refine Ev.aload_n rfl rfl ?_
  refine Ev.ifnonnull (tgt := 14) rfl (by decide) ?_
  refine Ev.iload_n rfl rfl ?_
  refine Ev.aload_n rfl rfl ?_
  refine Ev.alen rfl h_tp (by decide) rfl ?_
  refine Ev.mmin rfl rfl rfl (Nat.le_of_ble_eq_true rfl) ⟨(Nat.le_refl _), (Nat.le_refl _)⟩ ?_
  rw [show (if Int32.ofNat 600 < nI n then Int32.ofNat 600 else nI n) = nI n from if_neg (nI_nlt (a := 600) (b := n) (by omega) (by decide))]
  refine Ev.putE rfl rfl h_rd rfl rfl rfl (Nat.le_of_ble_eq_true rfl) (fun τ2 f1 h_rd => ?_)
  replace h_rd : τ2.2 r = some (.inr (.inr (5, [(.ref (r + 1)), (.ref (r + 12)), (.int fa), (.int pl), (.ref b), (.int (nI n)), (.int tk0), (.int st0), (.int en0), (.int va0), (.ref (r + 20)), (.int si)]))) := h_rd
  have h_nu := frm.cell f1 h_nu (by omega)
  have h_tp := frm.cell f1 h_tp (by omega)
  have hS := hS.frm f1 (by omega)
  have hP := hP.frm f1 (by omega)
  have fr := fr.step f1 (by omega) (by omega)
  refine Ev.aload_n rfl rfl ?_
  refine Ev.iconst (v := 0) rfl (by decide) ?_
  refine Ev.putE rfl rfl h_rd rfl rfl rfl (Nat.le_of_ble_eq_true rfl) (fun τ3 f1 h_rd => ?_)
  replace h_rd : τ3.2 r = some (.inr (.inr (5, [(.ref (r + 1)), (.ref (r + 12)), (.int fa), (.int pl), (.ref b), (.int (nI n)), (.int tk0), (.int st0), (.int (0 : Int32)), (.int va0), (.ref (r + 20)), (.int si)]))) := h_rd
  have h_nu := frm.cell f1 h_nu (by omega)
  have h_tp := frm.cell f1 h_tp (by omega)
  have hS := hS.frm f1 (by omega)
  have hP := hP.frm f1 (by omega)
  have fr := fr.step f1 (by omega) (by omega)
  refine Ev.aload_n rfl rfl ?_
  refine Ev.iconst (v := 0) rfl (by decide) ?_
  refine Ev.putE rfl rfl h_rd rfl rfl rfl (Nat.le_of_ble_eq_true rfl) (fun τ4 f1 h_rd => ?_)
  replace h_rd : τ4.2 r = some (.inr (.inr (5, [(.ref (r + 1)), (.ref (r + 12)), (.int (0 : Int32)), (.int pl), (.ref b), (.int (nI n)), (.int tk0), (.int st0), (.int (0 : Int32)), (.int va0), (.ref (r + 20)), (.int si)]))) := h_rd
  have h_nu := frm.cell f1 h_nu (by omega)
  have h_tp := frm.cell f1 h_tp (by omega)
  have hS := hS.frm f1 (by omega)
  have hP := hP.frm f1 (by omega)
  have fr := fr.step f1 (by omega) (by omega)
  refine Ev.aload_n rfl rfl ?_
  refine Ev.iconst (v := (-1)) rfl (by decide) ?_
  refine Ev.putE rfl rfl h_rd rfl rfl rfl (Nat.le_of_ble_eq_true rfl) (fun τ5 f1 h_rd => ?_)
  replace h_rd : τ5.2 r = some (.inr (.inr (5, [(.ref (r + 1)), (.ref (r + 12)), (.int (0 : Int32)), (.int (-1 : Int32)), (.ref b), (.int (nI n)), (.int tk0), (.int st0), (.int (0 : Int32)), (.int va0), (.ref (r + 20)), (.int si)]))) := h_rd
  have h_nu := frm.cell f1 h_nu (by omega)
  have h_tp := frm.cell f1 h_tp (by omega)
  have hS := hS.frm f1 (by omega)
  have hP := hP.frm f1 (by omega)
  have fr := fr.step f1 (by omega) (by omega)
  refine Ev.aload_n rfl rfl ?_
  refine Ev.getf rfl rfl h_rd rfl ?_
  refine Ev.xV0u rfl rfl hS.1 rfl rfl (by decide) ⟨(Nat.le_refl _), (Nat.le_refl _)⟩ (clear_ok hFR hS) (fun τ42 f9 hS => ?_)
  have h_rd := frm.cell f9 h_rd (by omega)
  have h_nu := frm.cell f9 h_nu (by omega)
  have h_tp := frm.cell f9 h_tp (by omega)
  have hP := hP.frm f9 (by omega)
  have fr := fr.step f9 (by omega) (by omega)
  refine Ev.aload_n rfl rfl ?_
  refine Ev.getf rfl rfl h_rd rfl ?_
  refine Ev.iconst (v := 0) rfl (by decide) ?_
  obtain ⟨p0, ⟨fp, p1, p2⟩, p3⟩ := id hP
  refine Ev.putE rfl rfl p0 rfl rfl rfl (Nat.le_of_ble_eq_true rfl) (fun τ50 f9 q1 => ?_)
  have hP : isP τ50 (r + 12) (0, P0.2) := ⟨q1, ⟨fp, frm.cell f9 p1 (by omega), p2⟩, fun k hk => (p3 k hk).frm f9 (by omega)⟩
  have h_rd := frm.cell f9 h_rd (by omega)
  have h_nu := frm.cell f9 h_nu (by omega)
  have h_tp := frm.cell f9 h_tp (by omega)
  have hS := hS.frm f9 (by omega)
  have fr := fr.step f9 (by omega) (by omega)
  refine Ev.iconst (v := 0) rfl (by decide) ?_
  refine Ev.istore rfl rfl rfl ?_
  have hl56 : ∀ (m56 : Nat) (i : Nat) (tk1 : Int32) (st1 : Int32) (va1 : Int32) (si1 : Int32) (nu1 : (Nat → Int32)), (i ≤ m ∧ Rw (qS U n (clS S0) i).1 = false) → (m + 1 - i) < m56 → ∀ τ56 : ex_S, frm σ τ56 r (r + 21) → τ56.2 r = some (.inr (.inr (5, [(.ref (r + 1)), (.ref (r + 12)), (.int (nI (Rf (qS U n (clS S0) i).1))), (.int (Rp (qS U n (clS S0) i).1)), (.ref b), (.int (nI n)), (.int tk1), (.int st1), (.int (nI (Re (qS U n (clS S0) i).1))), (.int va1), (.ref (r + 20)), (.int si1)]))) → τ56.2 (r + 20) = some (.inl (0, 4, nu1)) → τ56.2 b = some (.inl (1, 600, c)) → isS τ56 (r + 1) ((qS U n (clS S0) i).2) → isP τ56 (r + 12) (0, P0.2) → Ev Γ 0 0 m_Reader_read 0 0 56 [some (.ref r), none, none, some (.int (1 : Int32)), some (.int (nI i))] [] τ56 Q := by
    intro m56
    induction m56 with
    | zero => intro i tk1 st1 va1 si1 nu1 _ hm; exact absurd hm (Nat.not_lt_zero _)
    | succ m56 ih56 =>
      intro i tk1 st1 va1 si1 nu1 hJ56 hm56
      intro τ56 fr h_rd h_nu h_tp hS hP
      obtain ⟨hie, hwi⟩ := hJ56
      have hm6 := hm.2.2.2
      have hoki : Rok U n (qS U n (clS S0) i).1 := hm.2.2.1 i hie
      refine Ev.iload rfl rfl ?_
      refine Ev.sipush (v := 600) rfl (by decide) ?_
      refine Ev.jgt (tgt := 104) rfl (by decide) (fun c61 => absurd c61 (nI_nlt (a := 600) (b := i) (by omega) (by decide))) (fun c61 => ?_)
      refine Ev.aload_n rfl rfl ?_
      refine Ev.xV0u rfl rfl h_rd rfl rfl (by decide) ⟨(Nat.le_refl _), (Nat.le_refl _)⟩ (scan_ok ht hc h_tp (by omega) h_rd hoki.1) (fun τ65 f9 q9 => ?_)
      obtain ⟨tk9, en9, va9, h_rd, hcs9⟩ := q9
      have h_nu := frm.cell f9 h_nu (by omega)
      have h_tp := frm.cell f9 h_tp (by omega)
      have hS := hS.frm f9 (by omega)
      have hP := hP.frm f9 (by omega)
      have fr := fr.step f9 (by omega) (by omega)
      refine Ev.aload_n rfl rfl ?_
      refine Ev.getf rfl rfl h_rd rfl ?_
      refine Ev.zne (tgt := 76) rfl (by decide) (fun c72 => ?_) (fun c72 => ?_)
      · skip
        have hk0 : ¬ tK U n (Re (qS U n (clS S0) i).1) = 0 := fun h => c72 ((csc_0 hcs9).mpr h)
        have hlt : i < m := by
          by_cases e : i = m
          · rcases hm.2.1 with h | h
            · rw [e] at hwi
              rw [hwi] at h
              cases h
            · rw [e] at hk0
              exact absurd h hk0
          · omega
        have hwSi := hwq i hie
        by_cases hC : tK U n (Re (qS U n (clS S0) i).1) = 3 ∧ 1 ≤ tW U n (Re (qS U n (clS S0) i).1) ∧ tW U n (Re (qS U n (clS S0) i).1) ≤ 15
        · skip
          have hst : (qS U n (clS S0) (i + 1)) = (rel U n (lnX U n (tW U n (Re (qS U n (clS S0) i).1) - 1) (qS U n (clS S0) i).2 (qS U n (clS S0) i).1), if Rw (rel U n (lnX U n (tW U n (Re (qS U n (clS S0) i).1) - 1) (qS U n (clS S0) i).2 (qS U n (clS S0) i).1)) = false ∧ Rf (rel U n (lnX U n (tW U n (Re (qS U n (clS S0) i).1) - 1) (qS U n (clS S0) i).2 (qS U n (clS S0) i).1)) = 0 then LnF (tW U n (Re (qS U n (clS S0) i).1) - 1) (lnN U n (tW U n (Re (qS U n (clS S0) i).1) - 1) (qS U n (clS S0) i).2 (qS U n (clS S0) i).1) (qS U n (clS S0) i).2 else (qS U n (clS S0) i).2) := if_pos hC
          refine Ev.aload_n rfl rfl ?_
          refine Ev.iload_n rfl rfl ?_
          refine Ev.xV1 rfl rfl h_rd rfl rfl (by decide) ⟨(Nat.le_refl _), (Nat.le_refl _)⟩ (rdL_s (k := (tW U n (Re (qS U n (clS S0) i).1) - 1)) ht hc h_tp hbr h_rd h_nu hcs9 hoki hwi hR hS hP hwSi.1 hwSi.2.1 (Nat.zero_le _) hwt (by omega) hC.1 (by omega)) (fun τ78 f9 q9 => ?_)
          obtain ⟨fa9, pl9, tk8, st9, en8, va8, si9, nu9, N9, h_rd, h_nu, hS, hP, hr1, hr0⟩ := q9
          have h_tp := frm.cell f9 h_tp (by omega)
          have fr := fr.step f9 (by omega) (by omega)
          refine Ev.zne (tgt := 98) rfl (by decide) (fun c81 => ?_) (fun c81 => ?_)
          · skip
            have hw9 : Rw (rel U n (lnX U n (tW U n (Re (qS U n (clS S0) i).1) - 1) (qS U n (clS S0) i).2 (qS U n (clS S0) i).1)) = false := by
              cases hx : Rw (rel U n (lnX U n (tW U n (Re (qS U n (clS S0) i).1) - 1) (qS U n (clS S0) i).2 (qS U n (clS S0) i).1))
              · rfl
              · rw [hx, if_pos rfl] at c81
                exact absurd rfl c81
            obtain ⟨e1, e2, e3, e4⟩ := hr0 hw9
            have hq1 : (qS U n (clS S0) (i + 1)).1 = rel U n (lnX U n (tW U n (Re (qS U n (clS S0) i).1) - 1) (qS U n (clS S0) i).2 (qS U n (clS S0) i).1) := by rw [hst]
            have hq2 : (qS U n (clS S0) (i + 1)).2 = N9 := by
              rw [hst, e4]
              by_cases f : Rf (rel U n (lnX U n (tW U n (Re (qS U n (clS S0) i).1) - 1) (qS U n (clS S0) i).2 (qS U n (clS S0) i).1)) = 0
              · rw [if_pos f]
                exact if_pos ⟨hw9, f⟩
              · rw [if_neg f]
                exact if_neg (fun d => f d.2)
            rw [e1, e2, e3, ← hq1] at h_rd
            rw [← hq2] at hS
            rw [← hq1] at hw9
            refine Ev.iinc (d := 1) rfl rfl rfl (by decide) rfl ?_
            refine Ev.goto (tgt := 56) rfl (by decide) ?_
            exact (ih56 (i + 1) tk8 st9 va8 si9 nu9 (⟨by omega, hw9⟩) (by omega) τ78 fr h_rd h_nu h_tp hS hP).fg (gs rfl (gn (gn (gs rfl (gs (congrArg Value.int (nq_add (a := i) (b := 1) rfl (rfl : (1 : Int32) = nI 1)).symm) gz)))))
          · skip
            refine Ev.aload_n rfl rfl ?_
            refine Ev.iconst (v := 1) rfl (by decide) ?_
            refine Ev.putE rfl rfl h_rd rfl rfl rfl (Nat.le_of_ble_eq_true rfl) (fun τ6 f1 h_rd => ?_)
            replace h_rd : τ6.2 r = some (.inr (.inr (5, [(.ref (r + 1)), (.ref (r + 12)), (.int (1 : Int32)), (.int pl9), (.ref b), (.int (nI n)), (.int tk8), (.int st9), (.int en8), (.int va8), (.ref (r + 20)), (.int si9)]))) := h_rd
            have h_nu := frm.cell f1 h_nu (by omega)
            have h_tp := frm.cell f1 h_tp (by omega)
            have hS := hS.frm f1 (by omega)
            have hP := hP.frm f1 (by omega)
            have fr := fr.step f1 (by omega) (by omega)
            refine Ev.aload_n rfl rfl ?_
            refine Ev.aload_n rfl rfl ?_
            refine Ev.getf rfl rfl h_rd rfl ?_
            refine Ev.putE rfl rfl h_rd rfl rfl rfl (Nat.le_of_ble_eq_true rfl) (fun τ7 f1 h_rd => ?_)
            replace h_rd : τ7.2 r = some (.inr (.inr (5, [(.ref (r + 1)), (.ref (r + 12)), (.int (1 : Int32)), (.int st9), (.ref b), (.int (nI n)), (.int tk8), (.int st9), (.int en8), (.int va8), (.ref (r + 20)), (.int si9)]))) := h_rd
            have h_nu := frm.cell f1 h_nu (by omega)
            have h_tp := frm.cell f1 h_tp (by omega)
            have hS := hS.frm f1 (by omega)
            have hP := hP.frm f1 (by omega)
            have fr := fr.step f1 (by omega) (by omega)
            refine Ev.ret rfl rfl (Nat.le_refl _) (Nat.le_refl _) ?_
            have hwr : Rw (rel U n (lnX U n (tW U n (Re (qS U n (clS S0) i).1) - 1) (qS U n (clS S0) i).2 (qS U n (clS S0) i).1)) = true := by
              cases hx : Rw (rel U n (lnX U n (tW U n (Re (qS U n (clS S0) i).1) - 1) (qS U n (clS S0) i).2 (qS U n (clS S0) i).1))
              · rw [hx, if_neg (fun h => nomatch h)] at c81
                exact absurd c81 (by decide)
              · rfl
            have hw1 : Rw (qS U n (clS S0) (i + 1)).1 = true := by rw [hst]; exact hwr
            have hst9 := hr1 hwr
            have hmi : m = i + 1 := by
              by_cases e : m = i + 1
              · exact e
              · have := (hm.1 (i + 1) (by omega)).1
                rw [hw1] at this
                cases this
            subst hmi
            rw [← hQ]
            have hq1 : (qS U n (clS S0) (i + 1)).1 = rel U n (lnX U n (tW U n (Re (qS U n (clS S0) i).1) - 1) (qS U n (clS S0) i).2 (qS U n (clS S0) i).1) := by rw [hst]
            rw [hst9, ← hq1] at h_rd
            have h_rd : τ7.2 r = some (.inr (.inr (5, [(.ref (r + 1)), (.ref (r + 12)), (.int (nI (if Rw (qS U n (clS S0) (i + 1)).1 = true then 1 else Rf (qS U n (clS S0) (i + 1)).1))), (.int (if Rw (qS U n (clS S0) (i + 1)).1 = true then nI (tS0 U n (Re (qS U n (clS S0) (i + 1)).1)) else Rp (qS U n (clS S0) (i + 1)).1)), (.ref b), (.int (nI n)), (.int tk8), (.int (nI (tS0 U n (Re (qS U n (clS S0) (i + 1)).1)))), (.int en8), (.int va8), (.ref (r + 20)), (.int si9)]))) := by
              rw [if_pos hw1, if_pos hw1]
              exact h_rd
            exact ⟨rfl, fr, _, _, _, _, _, _, _, _, h_rd, h_nu, hS, hP, fun h => by rw [hw1] at h; cases h⟩
        · skip
          have hst : (qS U n (clS S0) (i + 1)) = ((true, Re (qS U n (clS S0) i).1, Rf (qS U n (clS S0) i).1, Rp (qS U n (clS S0) i).1), (qS U n (clS S0) i).2) := if_neg hC
          refine Ev.aload_n rfl rfl ?_
          refine Ev.iload_n rfl rfl ?_
          refine Ev.cV1 rfl rfl h_rd rfl rfl (by decide) ⟨(Nat.le_refl _), (Nat.le_refl _)⟩ (rdN_s ht hc h_tp h_rd hcs9 hoki hwt hC) ?_
          refine Ev.zne (tgt := 98) rfl (by decide) (fun c81 => absurd (by decide) c81) (fun c81 => ?_)
          refine Ev.aload_n rfl rfl ?_
          refine Ev.iconst (v := 1) rfl (by decide) ?_
          refine Ev.putE rfl rfl h_rd rfl rfl rfl (Nat.le_of_ble_eq_true rfl) (fun τ8 f1 h_rd => ?_)
          replace h_rd : τ8.2 r = some (.inr (.inr (5, [(.ref (r + 1)), (.ref (r + 12)), (.int (1 : Int32)), (.int (Rp (qS U n (clS S0) i).1)), (.ref b), (.int (nI n)), (.int tk9), (.int (nI (tS0 U n (Re (qS U n (clS S0) i).1)))), (.int en9), (.int va9), (.ref (r + 20)), (.int si1)]))) := h_rd
          have h_nu := frm.cell f1 h_nu (by omega)
          have h_tp := frm.cell f1 h_tp (by omega)
          have hS := hS.frm f1 (by omega)
          have hP := hP.frm f1 (by omega)
          have fr := fr.step f1 (by omega) (by omega)
          refine Ev.aload_n rfl rfl ?_
          refine Ev.aload_n rfl rfl ?_
          refine Ev.getf rfl rfl h_rd rfl ?_
          refine Ev.putE rfl rfl h_rd rfl rfl rfl (Nat.le_of_ble_eq_true rfl) (fun τ9 f1 h_rd => ?_)
          replace h_rd : τ9.2 r = some (.inr (.inr (5, [(.ref (r + 1)), (.ref (r + 12)), (.int (1 : Int32)), (.int (nI (tS0 U n (Re (qS U n (clS S0) i).1)))), (.ref b), (.int (nI n)), (.int tk9), (.int (nI (tS0 U n (Re (qS U n (clS S0) i).1)))), (.int en9), (.int va9), (.ref (r + 20)), (.int si1)]))) := h_rd
          have h_nu := frm.cell f1 h_nu (by omega)
          have h_tp := frm.cell f1 h_tp (by omega)
          have hS := hS.frm f1 (by omega)
          have hP := hP.frm f1 (by omega)
          have fr := fr.step f1 (by omega) (by omega)
          refine Ev.ret rfl rfl (Nat.le_refl _) (Nat.le_refl _) ?_
          have hw1 : Rw (qS U n (clS S0) (i + 1)).1 = true := by rw [hst]; rfl
          have hmi : m = i + 1 := by
            by_cases e : m = i + 1
            · exact e
            · have := (hm.1 (i + 1) (by omega)).1
              rw [hw1] at this
              cases this
          subst hmi
          rw [← hQ]
          have hq1 : Re (qS U n (clS S0) (i + 1)).1 = Re (qS U n (clS S0) i).1 := by rw [hst]; rfl
          have h_rd : τ9.2 r = some (.inr (.inr (5, [(.ref (r + 1)), (.ref (r + 12)), (.int (nI (if Rw (qS U n (clS S0) (i + 1)).1 = true then 1 else Rf (qS U n (clS S0) (i + 1)).1))), (.int (if Rw (qS U n (clS S0) (i + 1)).1 = true then nI (tS0 U n (Re (qS U n (clS S0) (i + 1)).1)) else Rp (qS U n (clS S0) (i + 1)).1)), (.ref b), (.int (nI n)), (.int tk9), (.int (nI (tS0 U n (Re (qS U n (clS S0) i).1)))), (.int en9), (.int va9), (.ref (r + 20)), (.int si1)]))) := by
            rw [if_pos hw1, if_pos hw1, hq1]
            exact h_rd
          exact ⟨rfl, fr, _, _, _, _, _, _, _, _, h_rd, h_nu, hS, hP, fun h => by rw [hw1] at h; cases h⟩
      · skip
        refine Ev.ret rfl rfl (Nat.le_refl _) (Nat.le_refl _) ?_
        have hk0 := (csc_0 hcs9).mp c72
        have hmi : i = m := by
          by_cases e : i = m
          · exact e
          · exact absurd hk0 (hm.1 i (by omega)).2
        subst hmi
        have hnw : ¬ Rw (qS U n (clS S0) i).1 = true := fun h => by rw [hwi] at h; cases h
        rw [← hQ]
        have h_rd : τ65.2 r = some (.inr (.inr (5, [(.ref (r + 1)), (.ref (r + 12)), (.int (nI (if Rw (qS U n (clS S0) i).1 = true then 1 else Rf (qS U n (clS S0) i).1))), (.int (if Rw (qS U n (clS S0) i).1 = true then nI (tS0 U n (Re (qS U n (clS S0) i).1)) else Rp (qS U n (clS S0) i).1)), (.ref b), (.int (nI n)), (.int tk9), (.int (nI (tS0 U n (Re (qS U n (clS S0) i).1)))), (.int en9), (.int va9), (.ref (r + 20)), (.int si1)]))) := by
          rw [if_neg hnw, if_neg hnw]
          exact h_rd
        exact ⟨rfl, fr, _, _, _, _, _, _, _, _, h_rd, h_nu, hS, hP, fun _ => rfl⟩
  exact (hl56 _ 0 tk0 st0 va0 si nu (⟨Nat.zero_le _, rfl⟩) (Nat.lt_succ_self _) τ50 fr h_rd h_nu h_tp hS hP).fg (gs rfl (gn (gn (gs rfl (gs (congrArg Value.int (rfl : (0 : Int32) = nI 0).symm) gz)))))
theorem read_p (ht : txt U n) (hc : cbt U n c) (h_tp : σ.2 b = some (.inl (1, 600, c))) (hbr : b < r ∨ r + 21 ≤ b) {fa pl ln0 tk0 st0 en0 va0 si : Int32} {tv : Value} (h_rd : σ.2 r = some (.inr (.inr (5, [.ref (r + 1), .ref (r + 12), .int fa, .int pl, tv, .int ln0, .int tk0, .int st0, .int en0, .int va0, .ref (r + 20), .int si])))) {nu : Nat → Int32} (h_nu : σ.2 (r + 20) = some (.inl (0, 4, nu))) {S0 : Sch} {P0 : Pln} (hS : isS σ (r + 1) S0) (hP : isP σ (r + 12) P0) (hR : rdst Γ) (hFR : frst Γ) (hwt : wtx Γ 1 31 (fun k => wdP.getD k 0)) {m : Nat} (hm : tEnd U n (fun i => (qP U n (0, P0.2) i).1) m) : RetX Γ m_Reader_read [.ref r, .ref b, .int (nI n), .int 0] σ r (r + 21) none (fun τ => ∃ (tk0 st0 en0 va0 si : Int32) (nu1 : Nat → Int32) (S1 : Sch) (P1 : Pln), τ.2 r = some (.inr (.inr (5, [.ref (r + 1), .ref (r + 12), .int (nI (if Rw (qP U n (0, P0.2) m).1 = true then 1 else Rf (qP U n (0, P0.2) m).1)), .int (if Rw (qP U n (0, P0.2) m).1 = true then nI (tS0 U n (Re (qP U n (0, P0.2) m).1)) else Rp (qP U n (0, P0.2) m).1), .ref b, .int (nI n), .int tk0, .int st0, .int en0, .int va0, .ref (r + 20), .int si]))) ∧ τ.2 (r + 20) = some (.inl (0, 4, nu1)) ∧ isS τ (r + 1) S1 ∧ isP τ (r + 12) P1 ∧ (Rw (qP U n (0, P0.2) m).1 = false → P1 = (qP U n (0, P0.2) m).2)) := by
  have hn6 := ht.1
  have hm : tEnd U n (fun i => (qP U n (0, P0.2) i).1) m := hm
  have hwq : ∀ i, i ≤ m → wP (qP U n (0, P0.2) i).2 := by
    intro i
    induction i with
    | zero => exact fun _ => ⟨Nat.zero_le _, fun k hk => absurd hk (Nat.not_lt_zero _)⟩
    | succ i ih => exact fun hi => stP_wP ht (hm.2.2.1 i (by omega)) (hm.1 i (by omega)).1 (hm.1 i (by omega)).2 (ih (by omega))
  unfold RetX
  generalize hQ : ((fun (r0 : Option Value) (τ : ex_S) => r0 = none ∧ frm σ τ r (r + 21) ∧ (fun τ : ex_S => ∃ (tk0 st0 en0 va0 si : Int32) (nu1 : Nat → Int32) (S1 : Sch) (P1 : Pln), τ.2 r = some (.inr (.inr (5, [.ref (r + 1), .ref (r + 12), .int (nI (if Rw (qP U n (0, P0.2) m).1 = true then 1 else Rf (qP U n (0, P0.2) m).1)), .int (if Rw (qP U n (0, P0.2) m).1 = true then nI (tS0 U n (Re (qP U n (0, P0.2) m).1)) else Rp (qP U n (0, P0.2) m).1), .ref b, .int (nI n), .int tk0, .int st0, .int en0, .int va0, .ref (r + 20), .int si]))) ∧ τ.2 (r + 20) = some (.inl (0, 4, nu1)) ∧ isS τ (r + 1) S1 ∧ isP τ (r + 12) P1 ∧ (Rw (qP U n (0, P0.2) m).1 = false → P1 = (qP U n (0, P0.2) m).2)) τ)) = Q
  refine Ret.start pm_117 rfl ?_
  have fr : frm σ σ r (r + 21) := frm.rf
  refine Ev.aload_n rfl rfl ?_
  refine Ev.aload_n rfl rfl ?_
  refine Ev.putE rfl rfl h_rd rfl rfl rfl (Nat.le_of_ble_eq_true rfl) (fun τ1 f1 h_rd => ?_)
  replace h_rd : τ1.2 r = some (.inr (.inr (5, [(.ref (r + 1)), (.ref (r + 12)), (.int fa), (.int pl), (.ref b), (.int ln0), (.int tk0), (.int st0), (.int en0), (.int va0), (.ref (r + 20)), (.int si)]))) := h_rd
  have h_nu := frm.cell f1 h_nu (by omega)
  have h_tp := frm.cell f1 h_tp (by omega)
  have hS := hS.frm f1 (by omega)
  have hP := hP.frm f1 (by omega)
  have fr := fr.step f1 (by omega) (by omega)
  refine Ev.aload_n rfl rfl ?_
  refine Ev.aload_n rfl rfl ?_
  refine Ev.ifnonnull (tgt := 14) rfl (by decide) ?_
  refine Ev.iload_n rfl rfl ?_
  refine Ev.aload_n rfl rfl ?_
  refine Ev.alen rfl h_tp (by decide) rfl ?_
  refine Ev.mmin rfl rfl rfl (Nat.le_of_ble_eq_true rfl) ⟨(Nat.le_refl _), (Nat.le_refl _)⟩ ?_
  rw [show (if Int32.ofNat 600 < nI n then Int32.ofNat 600 else nI n) = nI n from if_neg (nI_nlt (a := 600) (b := n) (by omega) (by decide))]
  refine Ev.putE rfl rfl h_rd rfl rfl rfl (Nat.le_of_ble_eq_true rfl) (fun τ2 f1 h_rd => ?_)
  replace h_rd : τ2.2 r = some (.inr (.inr (5, [(.ref (r + 1)), (.ref (r + 12)), (.int fa), (.int pl), (.ref b), (.int (nI n)), (.int tk0), (.int st0), (.int en0), (.int va0), (.ref (r + 20)), (.int si)]))) := h_rd
  have h_nu := frm.cell f1 h_nu (by omega)
  have h_tp := frm.cell f1 h_tp (by omega)
  have hS := hS.frm f1 (by omega)
  have hP := hP.frm f1 (by omega)
  have fr := fr.step f1 (by omega) (by omega)
  refine Ev.aload_n rfl rfl ?_
  refine Ev.iconst (v := 0) rfl (by decide) ?_
  refine Ev.putE rfl rfl h_rd rfl rfl rfl (Nat.le_of_ble_eq_true rfl) (fun τ3 f1 h_rd => ?_)
  replace h_rd : τ3.2 r = some (.inr (.inr (5, [(.ref (r + 1)), (.ref (r + 12)), (.int fa), (.int pl), (.ref b), (.int (nI n)), (.int tk0), (.int st0), (.int (0 : Int32)), (.int va0), (.ref (r + 20)), (.int si)]))) := h_rd
  have h_nu := frm.cell f1 h_nu (by omega)
  have h_tp := frm.cell f1 h_tp (by omega)
  have hS := hS.frm f1 (by omega)
  have hP := hP.frm f1 (by omega)
  have fr := fr.step f1 (by omega) (by omega)
  refine Ev.aload_n rfl rfl ?_
  refine Ev.iconst (v := 0) rfl (by decide) ?_
  refine Ev.putE rfl rfl h_rd rfl rfl rfl (Nat.le_of_ble_eq_true rfl) (fun τ4 f1 h_rd => ?_)
  replace h_rd : τ4.2 r = some (.inr (.inr (5, [(.ref (r + 1)), (.ref (r + 12)), (.int (0 : Int32)), (.int pl), (.ref b), (.int (nI n)), (.int tk0), (.int st0), (.int (0 : Int32)), (.int va0), (.ref (r + 20)), (.int si)]))) := h_rd
  have h_nu := frm.cell f1 h_nu (by omega)
  have h_tp := frm.cell f1 h_tp (by omega)
  have hS := hS.frm f1 (by omega)
  have hP := hP.frm f1 (by omega)
  have fr := fr.step f1 (by omega) (by omega)
  refine Ev.aload_n rfl rfl ?_
  refine Ev.iconst (v := (-1)) rfl (by decide) ?_
  refine Ev.putE rfl rfl h_rd rfl rfl rfl (Nat.le_of_ble_eq_true rfl) (fun τ5 f1 h_rd => ?_)
  replace h_rd : τ5.2 r = some (.inr (.inr (5, [(.ref (r + 1)), (.ref (r + 12)), (.int (0 : Int32)), (.int (-1 : Int32)), (.ref b), (.int (nI n)), (.int tk0), (.int st0), (.int (0 : Int32)), (.int va0), (.ref (r + 20)), (.int si)]))) := h_rd
  have h_nu := frm.cell f1 h_nu (by omega)
  have h_tp := frm.cell f1 h_tp (by omega)
  have hS := hS.frm f1 (by omega)
  have hP := hP.frm f1 (by omega)
  have fr := fr.step f1 (by omega) (by omega)
  refine Ev.aload_n rfl rfl ?_
  refine Ev.getf rfl rfl h_rd rfl ?_
  refine Ev.xV0u rfl rfl hS.1 rfl rfl (by decide) ⟨(Nat.le_refl _), (Nat.le_refl _)⟩ (clear_ok hFR hS) (fun τ42 f9 hS => ?_)
  have h_rd := frm.cell f9 h_rd (by omega)
  have h_nu := frm.cell f9 h_nu (by omega)
  have h_tp := frm.cell f9 h_tp (by omega)
  have hP := hP.frm f9 (by omega)
  have fr := fr.step f9 (by omega) (by omega)
  refine Ev.aload_n rfl rfl ?_
  refine Ev.getf rfl rfl h_rd rfl ?_
  refine Ev.iconst (v := 0) rfl (by decide) ?_
  obtain ⟨p0, ⟨fp, p1, p2⟩, p3⟩ := id hP
  refine Ev.putE rfl rfl p0 rfl rfl rfl (Nat.le_of_ble_eq_true rfl) (fun τ50 f9 q1 => ?_)
  have hP : isP τ50 (r + 12) (0, P0.2) := ⟨q1, ⟨fp, frm.cell f9 p1 (by omega), p2⟩, fun k hk => (p3 k hk).frm f9 (by omega)⟩
  have h_rd := frm.cell f9 h_rd (by omega)
  have h_nu := frm.cell f9 h_nu (by omega)
  have h_tp := frm.cell f9 h_tp (by omega)
  have hS := hS.frm f9 (by omega)
  have fr := fr.step f9 (by omega) (by omega)
  refine Ev.iconst (v := 0) rfl (by decide) ?_
  refine Ev.istore rfl rfl rfl ?_
  have hl56 : ∀ (m56 : Nat) (i : Nat) (tk1 : Int32) (st1 : Int32) (va1 : Int32) (si1 : Int32) (nu1 : (Nat → Int32)), (i ≤ m ∧ Rw (qP U n (0, P0.2) i).1 = false) → (m + 1 - i) < m56 → ∀ τ56 : ex_S, frm σ τ56 r (r + 21) → τ56.2 r = some (.inr (.inr (5, [(.ref (r + 1)), (.ref (r + 12)), (.int (nI (Rf (qP U n (0, P0.2) i).1))), (.int (Rp (qP U n (0, P0.2) i).1)), (.ref b), (.int (nI n)), (.int tk1), (.int st1), (.int (nI (Re (qP U n (0, P0.2) i).1))), (.int va1), (.ref (r + 20)), (.int si1)]))) → τ56.2 (r + 20) = some (.inl (0, 4, nu1)) → τ56.2 b = some (.inl (1, 600, c)) → isS τ56 (r + 1) (clS S0) → isP τ56 (r + 12) ((qP U n (0, P0.2) i).2) → Ev Γ 0 0 m_Reader_read 0 0 56 [some (.ref r), none, none, some (.int (0 : Int32)), some (.int (nI i))] [] τ56 Q := by
    intro m56
    induction m56 with
    | zero => intro i tk1 st1 va1 si1 nu1 _ hm; exact absurd hm (Nat.not_lt_zero _)
    | succ m56 ih56 =>
      intro i tk1 st1 va1 si1 nu1 hJ56 hm56
      intro τ56 fr h_rd h_nu h_tp hS hP
      obtain ⟨hie, hwi⟩ := hJ56
      have hm6 := hm.2.2.2
      have hoki : Rok U n (qP U n (0, P0.2) i).1 := hm.2.2.1 i hie
      refine Ev.iload rfl rfl ?_
      refine Ev.sipush (v := 600) rfl (by decide) ?_
      refine Ev.jgt (tgt := 104) rfl (by decide) (fun c61 => absurd c61 (nI_nlt (a := 600) (b := i) (by omega) (by decide))) (fun c61 => ?_)
      refine Ev.aload_n rfl rfl ?_
      refine Ev.xV0u rfl rfl h_rd rfl rfl (by decide) ⟨(Nat.le_refl _), (Nat.le_refl _)⟩ (scan_ok ht hc h_tp (by omega) h_rd hoki.1) (fun τ65 f9 q9 => ?_)
      obtain ⟨tk9, en9, va9, h_rd, hcs9⟩ := q9
      have h_nu := frm.cell f9 h_nu (by omega)
      have h_tp := frm.cell f9 h_tp (by omega)
      have hS := hS.frm f9 (by omega)
      have hP := hP.frm f9 (by omega)
      have fr := fr.step f9 (by omega) (by omega)
      refine Ev.aload_n rfl rfl ?_
      refine Ev.getf rfl rfl h_rd rfl ?_
      refine Ev.zne (tgt := 76) rfl (by decide) (fun c72 => ?_) (fun c72 => ?_)
      · skip
        have hk0 : ¬ tK U n (Re (qP U n (0, P0.2) i).1) = 0 := fun h => c72 ((csc_0 hcs9).mpr h)
        have hlt : i < m := by
          by_cases e : i = m
          · rcases hm.2.1 with h | h
            · rw [e] at hwi
              rw [hwi] at h
              cases h
            · rw [e] at hk0
              exact absurd h hk0
          · omega
        have hwSi := hwq i hie
        by_cases hC : tK U n (Re (qP U n (0, P0.2) i).1) = 3 ∧ 15 ≤ tW U n (Re (qP U n (0, P0.2) i).1) ∧ tW U n (Re (qP U n (0, P0.2) i).1) ≤ 20
        · skip
          have hst : (qP U n (0, P0.2) (i + 1)) = (rel U n (lpE U n (wkP (tW U n (Re (qP U n (0, P0.2) i).1))) (qP U n (0, P0.2) i).2 (qP U n (0, P0.2) i).1), if Rw (rel U n (lpE U n (wkP (tW U n (Re (qP U n (0, P0.2) i).1))) (qP U n (0, P0.2) i).2 (qP U n (0, P0.2) i).1)) = false ∧ Rf (rel U n (lpE U n (wkP (tW U n (Re (qP U n (0, P0.2) i).1))) (qP U n (0, P0.2) i).2 (qP U n (0, P0.2) i).1)) = 0 then LpF U n (wkP (tW U n (Re (qP U n (0, P0.2) i).1))) (qP U n (0, P0.2) i).2 (qP U n (0, P0.2) i).1 else (qP U n (0, P0.2) i).2) := if_pos hC
          refine Ev.aload_n rfl rfl ?_
          refine Ev.iload_n rfl rfl ?_
          refine Ev.xV1 rfl rfl h_rd rfl rfl (by decide) ⟨(Nat.le_refl _), (Nat.le_refl _)⟩ (rdL_pl ht hc h_tp hbr h_rd h_nu hcs9 hoki hwi hR hS hP (Nat.zero_le _) (Nat.zero_le _) hwSi.1 hwt hC) (fun τ78 f9 q9 => ?_)
          obtain ⟨fa9, pl9, tk8, st9, en8, va8, si9, nu9, N9, h_rd, h_nu, hS, hP, hr1, hr0⟩ := q9
          have h_tp := frm.cell f9 h_tp (by omega)
          have fr := fr.step f9 (by omega) (by omega)
          refine Ev.zne (tgt := 98) rfl (by decide) (fun c81 => ?_) (fun c81 => ?_)
          · skip
            have hw9 : Rw (rel U n (lpE U n (wkP (tW U n (Re (qP U n (0, P0.2) i).1))) (qP U n (0, P0.2) i).2 (qP U n (0, P0.2) i).1)) = false := by
              cases hx : Rw (rel U n (lpE U n (wkP (tW U n (Re (qP U n (0, P0.2) i).1))) (qP U n (0, P0.2) i).2 (qP U n (0, P0.2) i).1))
              · rfl
              · rw [hx, if_pos rfl] at c81
                exact absurd rfl c81
            obtain ⟨e1, e2, e3, e4⟩ := hr0 hw9
            have hq1 : (qP U n (0, P0.2) (i + 1)).1 = rel U n (lpE U n (wkP (tW U n (Re (qP U n (0, P0.2) i).1))) (qP U n (0, P0.2) i).2 (qP U n (0, P0.2) i).1) := by rw [hst]
            have hq2 : (qP U n (0, P0.2) (i + 1)).2 = N9 := by
              rw [hst, e4]
              by_cases f : Rf (rel U n (lpE U n (wkP (tW U n (Re (qP U n (0, P0.2) i).1))) (qP U n (0, P0.2) i).2 (qP U n (0, P0.2) i).1)) = 0
              · rw [if_pos f]
                exact if_pos ⟨hw9, f⟩
              · rw [if_neg f]
                exact if_neg (fun d => f d.2)
            rw [e1, e2, e3, ← hq1] at h_rd
            rw [← hq2] at hP
            rw [← hq1] at hw9
            refine Ev.iinc (d := 1) rfl rfl rfl (by decide) rfl ?_
            refine Ev.goto (tgt := 56) rfl (by decide) ?_
            exact (ih56 (i + 1) tk8 st9 va8 si9 nu9 (⟨by omega, hw9⟩) (by omega) τ78 fr h_rd h_nu h_tp hS hP).fg (gs rfl (gn (gn (gs rfl (gs (congrArg Value.int (nq_add (a := i) (b := 1) rfl (rfl : (1 : Int32) = nI 1)).symm) gz)))))
          · skip
            refine Ev.aload_n rfl rfl ?_
            refine Ev.iconst (v := 1) rfl (by decide) ?_
            refine Ev.putE rfl rfl h_rd rfl rfl rfl (Nat.le_of_ble_eq_true rfl) (fun τ6 f1 h_rd => ?_)
            replace h_rd : τ6.2 r = some (.inr (.inr (5, [(.ref (r + 1)), (.ref (r + 12)), (.int (1 : Int32)), (.int pl9), (.ref b), (.int (nI n)), (.int tk8), (.int st9), (.int en8), (.int va8), (.ref (r + 20)), (.int si9)]))) := h_rd
            have h_nu := frm.cell f1 h_nu (by omega)
            have h_tp := frm.cell f1 h_tp (by omega)
            have hS := hS.frm f1 (by omega)
            have hP := hP.frm f1 (by omega)
            have fr := fr.step f1 (by omega) (by omega)
            refine Ev.aload_n rfl rfl ?_
            refine Ev.aload_n rfl rfl ?_
            refine Ev.getf rfl rfl h_rd rfl ?_
            refine Ev.putE rfl rfl h_rd rfl rfl rfl (Nat.le_of_ble_eq_true rfl) (fun τ7 f1 h_rd => ?_)
            replace h_rd : τ7.2 r = some (.inr (.inr (5, [(.ref (r + 1)), (.ref (r + 12)), (.int (1 : Int32)), (.int st9), (.ref b), (.int (nI n)), (.int tk8), (.int st9), (.int en8), (.int va8), (.ref (r + 20)), (.int si9)]))) := h_rd
            have h_nu := frm.cell f1 h_nu (by omega)
            have h_tp := frm.cell f1 h_tp (by omega)
            have hS := hS.frm f1 (by omega)
            have hP := hP.frm f1 (by omega)
            have fr := fr.step f1 (by omega) (by omega)
            refine Ev.ret rfl rfl (Nat.le_refl _) (Nat.le_refl _) ?_
            have hwr : Rw (rel U n (lpE U n (wkP (tW U n (Re (qP U n (0, P0.2) i).1))) (qP U n (0, P0.2) i).2 (qP U n (0, P0.2) i).1)) = true := by
              cases hx : Rw (rel U n (lpE U n (wkP (tW U n (Re (qP U n (0, P0.2) i).1))) (qP U n (0, P0.2) i).2 (qP U n (0, P0.2) i).1))
              · rw [hx, if_neg (fun h => nomatch h)] at c81
                exact absurd c81 (by decide)
              · rfl
            have hw1 : Rw (qP U n (0, P0.2) (i + 1)).1 = true := by rw [hst]; exact hwr
            have hst9 := hr1 hwr
            have hmi : m = i + 1 := by
              by_cases e : m = i + 1
              · exact e
              · have := (hm.1 (i + 1) (by omega)).1
                rw [hw1] at this
                cases this
            subst hmi
            rw [← hQ]
            have hq1 : (qP U n (0, P0.2) (i + 1)).1 = rel U n (lpE U n (wkP (tW U n (Re (qP U n (0, P0.2) i).1))) (qP U n (0, P0.2) i).2 (qP U n (0, P0.2) i).1) := by rw [hst]
            rw [hst9, ← hq1] at h_rd
            have h_rd : τ7.2 r = some (.inr (.inr (5, [(.ref (r + 1)), (.ref (r + 12)), (.int (nI (if Rw (qP U n (0, P0.2) (i + 1)).1 = true then 1 else Rf (qP U n (0, P0.2) (i + 1)).1))), (.int (if Rw (qP U n (0, P0.2) (i + 1)).1 = true then nI (tS0 U n (Re (qP U n (0, P0.2) (i + 1)).1)) else Rp (qP U n (0, P0.2) (i + 1)).1)), (.ref b), (.int (nI n)), (.int tk8), (.int (nI (tS0 U n (Re (qP U n (0, P0.2) (i + 1)).1)))), (.int en8), (.int va8), (.ref (r + 20)), (.int si9)]))) := by
              rw [if_pos hw1, if_pos hw1]
              exact h_rd
            exact ⟨rfl, fr, _, _, _, _, _, _, _, _, h_rd, h_nu, hS, hP, fun h => by rw [hw1] at h; cases h⟩
        · skip
          have hst : (qP U n (0, P0.2) (i + 1)) = ((true, Re (qP U n (0, P0.2) i).1, Rf (qP U n (0, P0.2) i).1, Rp (qP U n (0, P0.2) i).1), (qP U n (0, P0.2) i).2) := if_neg hC
          refine Ev.aload_n rfl rfl ?_
          refine Ev.iload_n rfl rfl ?_
          refine Ev.cV1 rfl rfl h_rd rfl rfl (by decide) ⟨(Nat.le_refl _), (Nat.le_refl _)⟩ (rdN_p ht hc h_tp h_rd hcs9 hoki hwt hC) ?_
          refine Ev.zne (tgt := 98) rfl (by decide) (fun c81 => absurd (by decide) c81) (fun c81 => ?_)
          refine Ev.aload_n rfl rfl ?_
          refine Ev.iconst (v := 1) rfl (by decide) ?_
          refine Ev.putE rfl rfl h_rd rfl rfl rfl (Nat.le_of_ble_eq_true rfl) (fun τ8 f1 h_rd => ?_)
          replace h_rd : τ8.2 r = some (.inr (.inr (5, [(.ref (r + 1)), (.ref (r + 12)), (.int (1 : Int32)), (.int (Rp (qP U n (0, P0.2) i).1)), (.ref b), (.int (nI n)), (.int tk9), (.int (nI (tS0 U n (Re (qP U n (0, P0.2) i).1)))), (.int en9), (.int va9), (.ref (r + 20)), (.int si1)]))) := h_rd
          have h_nu := frm.cell f1 h_nu (by omega)
          have h_tp := frm.cell f1 h_tp (by omega)
          have hS := hS.frm f1 (by omega)
          have hP := hP.frm f1 (by omega)
          have fr := fr.step f1 (by omega) (by omega)
          refine Ev.aload_n rfl rfl ?_
          refine Ev.aload_n rfl rfl ?_
          refine Ev.getf rfl rfl h_rd rfl ?_
          refine Ev.putE rfl rfl h_rd rfl rfl rfl (Nat.le_of_ble_eq_true rfl) (fun τ9 f1 h_rd => ?_)
          replace h_rd : τ9.2 r = some (.inr (.inr (5, [(.ref (r + 1)), (.ref (r + 12)), (.int (1 : Int32)), (.int (nI (tS0 U n (Re (qP U n (0, P0.2) i).1)))), (.ref b), (.int (nI n)), (.int tk9), (.int (nI (tS0 U n (Re (qP U n (0, P0.2) i).1)))), (.int en9), (.int va9), (.ref (r + 20)), (.int si1)]))) := h_rd
          have h_nu := frm.cell f1 h_nu (by omega)
          have h_tp := frm.cell f1 h_tp (by omega)
          have hS := hS.frm f1 (by omega)
          have hP := hP.frm f1 (by omega)
          have fr := fr.step f1 (by omega) (by omega)
          refine Ev.ret rfl rfl (Nat.le_refl _) (Nat.le_refl _) ?_
          have hw1 : Rw (qP U n (0, P0.2) (i + 1)).1 = true := by rw [hst]; rfl
          have hmi : m = i + 1 := by
            by_cases e : m = i + 1
            · exact e
            · have := (hm.1 (i + 1) (by omega)).1
              rw [hw1] at this
              cases this
          subst hmi
          rw [← hQ]
          have hq1 : Re (qP U n (0, P0.2) (i + 1)).1 = Re (qP U n (0, P0.2) i).1 := by rw [hst]; rfl
          have h_rd : τ9.2 r = some (.inr (.inr (5, [(.ref (r + 1)), (.ref (r + 12)), (.int (nI (if Rw (qP U n (0, P0.2) (i + 1)).1 = true then 1 else Rf (qP U n (0, P0.2) (i + 1)).1))), (.int (if Rw (qP U n (0, P0.2) (i + 1)).1 = true then nI (tS0 U n (Re (qP U n (0, P0.2) (i + 1)).1)) else Rp (qP U n (0, P0.2) (i + 1)).1)), (.ref b), (.int (nI n)), (.int tk9), (.int (nI (tS0 U n (Re (qP U n (0, P0.2) i).1)))), (.int en9), (.int va9), (.ref (r + 20)), (.int si1)]))) := by
            rw [if_pos hw1, if_pos hw1, hq1]
            exact h_rd
          exact ⟨rfl, fr, _, _, _, _, _, _, _, _, h_rd, h_nu, hS, hP, fun h => by rw [hw1] at h; cases h⟩
      · skip
        refine Ev.ret rfl rfl (Nat.le_refl _) (Nat.le_refl _) ?_
        have hk0 := (csc_0 hcs9).mp c72
        have hmi : i = m := by
          by_cases e : i = m
          · exact e
          · exact absurd hk0 (hm.1 i (by omega)).2
        subst hmi
        have hnw : ¬ Rw (qP U n (0, P0.2) i).1 = true := fun h => by rw [hwi] at h; cases h
        rw [← hQ]
        have h_rd : τ65.2 r = some (.inr (.inr (5, [(.ref (r + 1)), (.ref (r + 12)), (.int (nI (if Rw (qP U n (0, P0.2) i).1 = true then 1 else Rf (qP U n (0, P0.2) i).1))), (.int (if Rw (qP U n (0, P0.2) i).1 = true then nI (tS0 U n (Re (qP U n (0, P0.2) i).1)) else Rp (qP U n (0, P0.2) i).1)), (.ref b), (.int (nI n)), (.int tk9), (.int (nI (tS0 U n (Re (qP U n (0, P0.2) i).1)))), (.int en9), (.int va9), (.ref (r + 20)), (.int si1)]))) := by
          rw [if_neg hnw, if_neg hnw]
          exact h_rd
        exact ⟨rfl, fr, _, _, _, _, _, _, _, _, h_rd, h_nu, hS, hP, fun _ => rfl⟩
  exact (hl56 _ 0 tk0 st0 va0 si nu (⟨Nat.zero_le _, rfl⟩) (Nat.lt_succ_self _) τ50 fr h_rd h_nu h_tp hS hP).fg (gs rfl (gn (gn (gs rfl (gs (congrArg Value.int (rfl : (0 : Int32) = nI 0).symm) gz)))))
end
end
