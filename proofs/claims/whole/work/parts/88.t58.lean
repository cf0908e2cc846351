/-! Texts (class): a word that is not there; what is cleared. -/
noncomputable section
theorem stS_wS {U : Nat → Nat} {n : Nat} {s : Rs} {S : Sch} (ht : txt U n) (h : Rok U n s) (hw : Rw s = false) (hk : ¬ tK U n (Re s) = 0) (hS : wS S) : wS (stS U n (s, S)).2 := by
  unfold stS
  split
  · rename_i c
    show wS (if _ then _ else S)
    split
    · rename_i d
      have hl := lnS_f (k := tW U n (Re s) - 1) (S := S) ht h hw hk
      have hx : Rok U n (lnX U n (tW U n (Re s) - 1) S s) := chn_ok ht hl.1 _
      have e := rel_re ht hx d.1
      have d2 : Rf (rel U n (lnX U n (tW U n (Re s) - 1) S s)) = 0 := d.2
      rw [e.2.2] at d2
      obtain ⟨_, f2, g⟩ := chn_good _ e.2.1 d2
      have hc := hl.2.2.2 f2
      exact LnF_wS (by have := c.2.1; have := c.2.2; omega) hS hc.1 hc.2.1 g
    · exact hS
  · exact hS
theorem stP_wP {U : Nat → Nat} {n : Nat} {s : Rs} {P : Pln} (ht : txt U n) (h : Rok U n s) (hw : Rw s = false) (hk : ¬ tK U n (Re s) = 0) (hP : wP P) : wP (stP U n (s, P)).2 := by
  unfold stP
  split
  · rename_i c
    have hr := wkP_r _ c.2.1 c.2.2
    have hr : 15 ≤ wkP (tW U n (Re s)) ∧ wkP (tW U n (Re s)) ≤ 20 := hr
    show wP (if _ then LpF U n (wkP (tW U n (Re s))) P s else P)
    split
    · rename_i d
      obtain ⟨hx, _⟩ := lpE_ok (k := wkP (tW U n (Re s))) (P := P) ht h hw hk
      have e := rel_re ht hx d.1
      have d2 : Rf (rel U n (lpE U n (wkP (tW U n (Re s))) P s)) = 0 := d.2
      rw [e.2.2] at d2
      have e1 := e.2.1
      unfold lpE at d2 e1
      unfold LpF
      by_cases q : wkP (tW U n (Re s)) = 20
      · rw [if_pos q] at d2 e1 ⊢
        obtain ⟨m, m1, m2⟩ := msk_lt _ e1 d2
        rw [m2]
        exact LnQ_wP m1 hP
      · rw [if_neg q] at d2 e1 ⊢
        obtain ⟨_, f2, g⟩ := chn_good _ e1 d2
        have hl := lpS_f (k := wkP (tW U n (Re s))) (P := P) ht h hw hk
        exact LnP_wP ⟨hr.1, by omega⟩ hP ((hl.2.2.2 f2).1 ⟨hr.1, by omega⟩) g
    · exact hP
  · exact hP
/-- the first rules, and a school that is cleared -/
def FRl : List Int32 := [15, 0, 1, 15, 9, 0, 0, 10, 50, 0, 100]
def FR0 : Nat → Int32 := fun j => FRl.getD j 0
def frst (Γ : ex_G) : Prop := ∃ q, gV Γ 0 = .ref q ∧ (q, 0, 11, FR0) ∈ gA Γ
def up7 (f : Nat → Int32) (v : Int32) : Nat → Int32 := upd (upd (upd (upd (upd (upd (upd f 0 v) 1 v) 2 v) 3 v) 4 v) 5 v) 6 v
theorem up7_at {f : Nat → Int32} {v : Int32} : ∀ d, d < 7 → up7 f v d = v
  | 0, _ => rfl
  | 1, _ => rfl
  | 2, _ => rfl
  | 3, _ => rfl
  | 4, _ => rfl
  | 5, _ => rfl
  | 6, _ => rfl
  | d + 7, h => absurd h (by omega)
def clS (S : Sch) : Sch := (0, 0, fun j => if j = 7 then up7 (S.2.2 7) 0 else if j = 8 then up7 (S.2.2 8) 100 else if j = 9 then FR0 else S.2.2 j)
theorem clS_wS (S : Sch) : wS (clS S) := by
  refine ⟨by show 0 ≤ 16; omega, by show 0 ≤ 5; omega, fun i hi => absurd hi (Nat.not_lt_zero _), fun i hi => absurd hi (Nat.not_lt_zero _), fun d hd => ?_, (show rg (15 : Int32) 1 15 from ⟨by decide, by decide⟩), (show rg (0 : Int32) 0 20 from ⟨by decide, by decide⟩), (show rg (1 : Int32) 1 15 from ⟨by decide, by decide⟩), (show rg (15 : Int32) 1 15 from ⟨by decide, by decide⟩), (show (1 : Int32) ≤ 15 by decide), (show rg (9 : Int32) 1 9 from ⟨by decide, by decide⟩), (show rg (0 : Int32) 0 999 from ⟨by decide, by decide⟩), (show rg (0 : Int32) 0 999 from ⟨by decide, by decide⟩), (show rg (10 : Int32) 1 30 from ⟨by decide, by decide⟩), (show rg (50 : Int32) 0 99 from ⟨by decide, by decide⟩), (show rg (0 : Int32) 0 99 from ⟨by decide, by decide⟩), (show rg (100 : Int32) 0 200 from ⟨by decide, by decide⟩)⟩
  show rg (up7 (S.2.2 7) 0 d) 0 99 ∧ rg (up7 (S.2.2 8) 100 d) 0 100
  rw [up7_at d hd, up7_at d hd]
  exact ⟨⟨by decide, by decide⟩, by decide, by decide⟩
section
variable {Γ : ex_G} {σ : ex_S} {x q a p y : Nat} {S : Sch} {T : Tol} {P : Pln} {g A : Nat → Int32}
variable {P : Pln} {U : Nat → Nat} {n r b : Nat} {s : Rs} {c : Nat → Int32}
theorem rdN_s (ht : txt U n) (hc : cbt U n c) (h_tp : σ.2 b = some (.inl (1, 600, c))) {fa pl tk0 en0 va0 si : Int32} (h_rd : σ.2 r = some (.inr (.inr (5, [.ref (r + 1), .ref (r + 12), .int fa, .int pl, .ref b, .int (nI n), .int tk0, .int (nI (tS0 U n (Re s))), .int en0, .int va0, .ref (r + 20), .int si])))) (hcs : csc U n (Re s) tk0 en0 va0) (hok : Rok U n s) (hwt : wtx Γ 0 90 (fun k => wdS.getD k 0)) (hno : ¬ (tK U n (Re s) = 3 ∧ 1 ≤ tW U n (Re s) ∧ tW U n (Re s) ≤ 15)) : RetV Γ m_Reader_readLine [.ref r, .int 1] σ (.int 0) := by
  have hn6 := ht.1
  unfold RetV
  generalize hQ : ((fun (r0 : Option Value) (σ' : ex_S) => r0 = some (.int 0) ∧ σ' = σ)) = Q
  refine Ret.start pm_118 rfl ?_
  refine Ev.aload_n rfl rfl ?_
  refine Ev.getf rfl rfl h_rd rfl ?_
  refine Ev.iconst (v := 1) rfl (by decide) ?_
  refine Ev.jne (tgt := 26) rfl (by decide) (fun c5 => ?_) (fun c5 => ?_)
  · skip
    refine Ev.iconst (v := (-1)) rfl (by decide) ?_
    refine Ev.istore_n rfl rfl rfl ?_
    refine Ev.iload_n rfl rfl ?_
    refine Ev.zne (tgt := 37) rfl (by decide) (fun c29 => ?_) (fun c29 => absurd c29 (by decide))
    refine Ev.iload_n rfl rfl ?_
    refine Ev.goto (tgt := 45) rfl (by decide) ?_
    refine Ev.istore_n rfl rfl rfl ?_
    refine Ev.iload_n rfl rfl ?_
    refine Ev.zlt (tgt := 58) rfl (by decide) (fun c47 => ?_) (fun c47 => absurd (by decide) c47)
    refine Ev.iconst (v := 0) rfl (by decide) ?_
    refine Ev.iret (ty := .boolean) rfl rfl rfl (Nat.le_refl _) (Nat.le_refl _) ?_
    rw [← hQ]
    exact ⟨rfl, rfl⟩
  · skip
    obtain ⟨hlt, hen, hEL, hKW⟩ := csc_w hcs c5
    subst hen
    have hT : ∀ i, i < 15 → ¬ tW U n (Re s) = wnS i := fun i hi h => by
      have h2 : tW U n (Re s) = i + 1 := h
      rw [if_neg (by omega)] at hKW
      exact hno ⟨hKW, by omega, by omega⟩
    obtain ⟨wv1, wv0⟩ := wrd_n (M := 15) (W := wnS) ht hok.1 hlt hwt wdS_1 wnS_r hT
    obtain ⟨hl1, hl2, hl3, -⟩ := tL_sp ht hok.1
    refine Ev.aload_n rfl rfl ?_
    refine Ev.iload_n rfl rfl ?_
    refine Ev.zeq (tgt := 18) rfl (by decide) (fun c10 => absurd c10 (by decide)) (fun c10 => ?_)
    refine Ev.ldcS (j := 0) rfl rfl rfl ?_
    refine Ev.goto (tgt := 20) rfl (by decide) ?_
    refine Ev.cV1 rfl rfl h_rd rfl rfl (by decide) ⟨(Nat.le_refl _), (Nat.le_refl _)⟩ (wordIn_ok ht hc h_tp hwt hl1 hl2 hl3 h_rd wv1 wv0) ?_
    refine Ev.goto (tgt := 27) rfl (by decide) ?_
    refine Ev.istore_n rfl rfl rfl ?_
    refine Ev.iload_n rfl rfl ?_
    refine Ev.zne (tgt := 37) rfl (by decide) (fun c29 => ?_) (fun c29 => absurd c29 (by decide))
    refine Ev.iload_n rfl rfl ?_
    refine Ev.goto (tgt := 45) rfl (by decide) ?_
    refine Ev.istore_n rfl rfl rfl ?_
    refine Ev.iload_n rfl rfl ?_
    refine Ev.zlt (tgt := 58) rfl (by decide) (fun c47 => ?_) (fun c47 => absurd (by decide) c47)
    refine Ev.iconst (v := 0) rfl (by decide) ?_
    refine Ev.iret (ty := .boolean) rfl rfl rfl (Nat.le_refl _) (Nat.le_refl _) ?_
    rw [← hQ]
    exact ⟨rfl, rfl⟩
theorem wnP_15 : ∀ i, i < 6 → 15 ≤ wnP i ∧ wnP i ≤ 20 := by decide
theorem rdN_p (ht : txt U n) (hc : cbt U n c) (h_tp : σ.2 b = some (.inl (1, 600, c))) {fa pl tk0 en0 va0 si : Int32} (h_rd : σ.2 r = some (.inr (.inr (5, [.ref (r + 1), .ref (r + 12), .int fa, .int pl, .ref b, .int (nI n), .int tk0, .int (nI (tS0 U n (Re s))), .int en0, .int va0, .ref (r + 20), .int si])))) (hcs : csc U n (Re s) tk0 en0 va0) (hok : Rok U n s) (hwt : wtx Γ 1 31 (fun k => wdP.getD k 0)) (hno : ¬ (tK U n (Re s) = 3 ∧ 15 ≤ tW U n (Re s) ∧ tW U n (Re s) ≤ 20)) : RetV Γ m_Reader_readLine [.ref r, .int 0] σ (.int 0) := by
  have hn6 := ht.1
  unfold RetV
  generalize hQ : ((fun (r0 : Option Value) (σ' : ex_S) => r0 = some (.int 0) ∧ σ' = σ)) = Q
  refine Ret.start pm_118 rfl ?_
  refine Ev.aload_n rfl rfl ?_
  refine Ev.getf rfl rfl h_rd rfl ?_
  refine Ev.iconst (v := 1) rfl (by decide) ?_
  refine Ev.jne (tgt := 26) rfl (by decide) (fun c5 => ?_) (fun c5 => ?_)
  · skip
    refine Ev.iconst (v := (-1)) rfl (by decide) ?_
    refine Ev.istore_n rfl rfl rfl ?_
    refine Ev.iload_n rfl rfl ?_
    refine Ev.zne (tgt := 37) rfl (by decide) (fun c29 => absurd (by decide) c29) (fun c29 => ?_)
    refine Ev.iload_n rfl rfl ?_
    refine Ev.iconst (v := (-1)) rfl (by decide) ?_
    refine Ev.jne (tgt := 41) rfl (by decide) (fun c34 => absurd (by decide) c34) (fun c34 => ?_)
    refine Ev.iload_n rfl rfl ?_
    refine Ev.goto (tgt := 45) rfl (by decide) ?_
    refine Ev.istore_n rfl rfl rfl ?_
    refine Ev.iload_n rfl rfl ?_
    refine Ev.zlt (tgt := 58) rfl (by decide) (fun c47 => ?_) (fun c47 => absurd (by decide) c47)
    refine Ev.iconst (v := 0) rfl (by decide) ?_
    refine Ev.iret (ty := .boolean) rfl rfl rfl (Nat.le_refl _) (Nat.le_refl _) ?_
    rw [← hQ]
    exact ⟨rfl, rfl⟩
  · skip
    obtain ⟨hlt, hen, hEL, hKW⟩ := csc_w hcs c5
    subst hen
    have hT : ∀ i, i < 6 → ¬ tW U n (Re s) = wnP i := fun i hi h => by
      have h3 := wnP_15 i hi
      rw [if_neg (by omega)] at hKW
      exact hno ⟨hKW, by omega, by omega⟩
    obtain ⟨wv1, wv0⟩ := wrd_n (M := 6) (W := wnP) ht hok.1 hlt hwt wdP_1 wnP_r hT
    obtain ⟨hl1, hl2, hl3, -⟩ := tL_sp ht hok.1
    refine Ev.aload_n rfl rfl ?_
    refine Ev.iload_n rfl rfl ?_
    refine Ev.zeq (tgt := 18) rfl (by decide) (fun c10 => ?_) (fun c10 => absurd (by decide) c10)
    refine Ev.ldcS (j := 1) rfl rfl rfl ?_
    refine Ev.cV1 rfl rfl h_rd rfl rfl (by decide) ⟨(Nat.le_refl _), (Nat.le_refl _)⟩ (wordIn_ok ht hc h_tp hwt hl1 hl2 hl3 h_rd wv1 wv0) ?_
    refine Ev.goto (tgt := 27) rfl (by decide) ?_
    refine Ev.istore_n rfl rfl rfl ?_
    refine Ev.iload_n rfl rfl ?_
    refine Ev.zne (tgt := 37) rfl (by decide) (fun c29 => absurd (by decide) c29) (fun c29 => ?_)
    refine Ev.iload_n rfl rfl ?_
    refine Ev.iconst (v := (-1)) rfl (by decide) ?_
    refine Ev.jne (tgt := 41) rfl (by decide) (fun c34 => absurd (by decide) c34) (fun c34 => ?_)
    refine Ev.iload_n rfl rfl ?_
    refine Ev.goto (tgt := 45) rfl (by decide) ?_
    refine Ev.istore_n rfl rfl rfl ?_
    refine Ev.iload_n rfl rfl ?_
    refine Ev.zlt (tgt := 58) rfl (by decide) (fun c47 => ?_) (fun c47 => absurd (by decide) c47)
    refine Ev.iconst (v := 0) rfl (by decide) ?_
    refine Ev.iret (ty := .boolean) rfl rfl rfl (Nat.le_refl _) (Nat.le_refl _) ?_
    rw [← hQ]
    exact ⟨rfl, rfl⟩
theorem clear_ok (hFR : frst Γ) (hS : isS σ a S) : RetX Γ m_School_clear [.ref a] σ a (a + 11) none (fun τ => isS τ a (clS S)) := by
  obtain ⟨qFR, hFR1, hFR2⟩ := hFR
  obtain ⟨h0, h1, h2, h3, h4, h5, h6, h7, h8, h9, h10⟩ := id hS
  unfold RetX
  generalize hQ : ((fun (r0 : Option Value) (τ : ex_S) => r0 = none ∧ frm σ τ a (a + 11) ∧ (fun τ : ex_S => isS τ a (clS S)) τ)) = Q
  refine Ret.start pm_71 rfl ?_
  have fr : frm σ σ a (a + 11) := frm.rf
  refine Ev.aload_n rfl rfl ?_
  refine Ev.iconst (v := 0) rfl (by decide) ?_
  refine Ev.putE rfl rfl h0 rfl rfl rfl (Nat.le_of_ble_eq_true rfl) (fun τ1 f1 h0 => ?_)
  replace h0 : τ1.2 a = some (.inr (.inr (2, [(.int (0 : Int32)), (.ref (a + 1)), (.ref (a + 2)), (.ref (a + 3)), (.ref (a + 4)), (.ref (a + 5)), (.int (nI S.2.1)), (.ref (a + 6)), (.ref (a + 7)), (.ref (a + 8)), (.ref (a + 9)), (.ref (a + 10))]))) := h0
  have h1 := frm.cell f1 h1 (by omega)
  have h2 := frm.cell f1 h2 (by omega)
  have h3 := frm.cell f1 h3 (by omega)
  have h4 := frm.cell f1 h4 (by omega)
  have h5 := frm.cell f1 h5 (by omega)
  have h6 := frm.cell f1 h6 (by omega)
  have h7 := frm.cell f1 h7 (by omega)
  have h8 := frm.cell f1 h8 (by omega)
  have h9 := frm.cell f1 h9 (by omega)
  have h10 := frm.cell f1 h10 (by omega)
  have fr := fr.step f1 (by omega) (by omega)
  refine Ev.aload_n rfl rfl ?_
  refine Ev.iconst (v := 0) rfl (by decide) ?_
  refine Ev.putE rfl rfl h0 rfl rfl rfl (Nat.le_of_ble_eq_true rfl) (fun τ2 f1 h0 => ?_)
  replace h0 : τ2.2 a = some (.inr (.inr (2, [(.int (0 : Int32)), (.ref (a + 1)), (.ref (a + 2)), (.ref (a + 3)), (.ref (a + 4)), (.ref (a + 5)), (.int (0 : Int32)), (.ref (a + 6)), (.ref (a + 7)), (.ref (a + 8)), (.ref (a + 9)), (.ref (a + 10))]))) := h0
  have h1 := frm.cell f1 h1 (by omega)
  have h2 := frm.cell f1 h2 (by omega)
  have h3 := frm.cell f1 h3 (by omega)
  have h4 := frm.cell f1 h4 (by omega)
  have h5 := frm.cell f1 h5 (by omega)
  have h6 := frm.cell f1 h6 (by omega)
  have h7 := frm.cell f1 h7 (by omega)
  have h8 := frm.cell f1 h8 (by omega)
  have h9 := frm.cell f1 h9 (by omega)
  have h10 := frm.cell f1 h10 (by omega)
  have fr := fr.step f1 (by omega) (by omega)
  refine Ev.iconst (v := 0) rfl (by decide) ?_
  refine Ev.istore_n rfl rfl rfl ?_
  refine Ev.iload_n rfl rfl ?_
  refine Ev.bipush (v := 7) rfl (by decide) ?_
  refine Ev.jge (tgt := 39) rfl (by decide) (fun c15 => absurd (by decide) c15) (fun c15 => ?_)
  refine Ev.aload_n rfl rfl ?_
  refine Ev.getf rfl rfl h0 rfl ?_
  refine Ev.iload_n rfl rfl ?_
  refine Ev.iconst (v := 0) rfl (by decide) ?_
  refine Ev.iastE (k := 0) rfl h8 (rfl : (0 : Int32) = nI 0) ⟨(by omega), by decide⟩ (fun τ3 f1 h8 => ?_)
  have h0 := frm.cell f1 h0 (by omega)
  have h1 := frm.cell f1 h1 (by omega)
  have h2 := frm.cell f1 h2 (by omega)
  have h3 := frm.cell f1 h3 (by omega)
  have h4 := frm.cell f1 h4 (by omega)
  have h5 := frm.cell f1 h5 (by omega)
  have h6 := frm.cell f1 h6 (by omega)
  have h7 := frm.cell f1 h7 (by omega)
  have h9 := frm.cell f1 h9 (by omega)
  have h10 := frm.cell f1 h10 (by omega)
  have fr := fr.step f1 (by omega) (by omega)
  refine Ev.aload_n rfl rfl ?_
  refine Ev.getf rfl rfl h0 rfl ?_
  refine Ev.iload_n rfl rfl ?_
  refine Ev.bipush (v := 100) rfl (by decide) ?_
  refine Ev.iastE (k := 0) rfl h9 (rfl : (0 : Int32) = nI 0) ⟨(by omega), by decide⟩ (fun τ4 f1 h9 => ?_)
  have h0 := frm.cell f1 h0 (by omega)
  have h1 := frm.cell f1 h1 (by omega)
  have h2 := frm.cell f1 h2 (by omega)
  have h3 := frm.cell f1 h3 (by omega)
  have h4 := frm.cell f1 h4 (by omega)
  have h5 := frm.cell f1 h5 (by omega)
  have h6 := frm.cell f1 h6 (by omega)
  have h7 := frm.cell f1 h7 (by omega)
  have h8 := frm.cell f1 h8 (by omega)
  have h10 := frm.cell f1 h10 (by omega)
  have fr := fr.step f1 (by omega) (by omega)
  refine Ev.iinc (d := 1) rfl rfl rfl (by decide) rfl ?_
  refine Ev.goto (tgt := 12) rfl (by decide) ?_
  refine Ev.iload_n rfl rfl ?_
  refine Ev.bipush (v := 7) rfl (by decide) ?_
  refine Ev.jge (tgt := 39) rfl (by decide) (fun c15 => absurd (by decide) c15) (fun c15 => ?_)
  refine Ev.aload_n rfl rfl ?_
  refine Ev.getf rfl rfl h0 rfl ?_
  refine Ev.iload_n rfl rfl ?_
  refine Ev.iconst (v := 0) rfl (by decide) ?_
  refine Ev.iastE (k := 1) rfl h8 (by decide) ⟨(by omega), by decide⟩ (fun τ5 f1 h8 => ?_)
  have h0 := frm.cell f1 h0 (by omega)
  have h1 := frm.cell f1 h1 (by omega)
  have h2 := frm.cell f1 h2 (by omega)
  have h3 := frm.cell f1 h3 (by omega)
  have h4 := frm.cell f1 h4 (by omega)
  have h5 := frm.cell f1 h5 (by omega)
  have h6 := frm.cell f1 h6 (by omega)
  have h7 := frm.cell f1 h7 (by omega)
  have h9 := frm.cell f1 h9 (by omega)
  have h10 := frm.cell f1 h10 (by omega)
  have fr := fr.step f1 (by omega) (by omega)
  refine Ev.aload_n rfl rfl ?_
  refine Ev.getf rfl rfl h0 rfl ?_
  refine Ev.iload_n rfl rfl ?_
  refine Ev.bipush (v := 100) rfl (by decide) ?_
  refine Ev.iastE (k := 1) rfl h9 (by decide) ⟨(by omega), by decide⟩ (fun τ6 f1 h9 => ?_)
  have h0 := frm.cell f1 h0 (by omega)
  have h1 := frm.cell f1 h1 (by omega)
  have h2 := frm.cell f1 h2 (by omega)
  have h3 := frm.cell f1 h3 (by omega)
  have h4 := frm.cell f1 h4 (by omega)
  have h5 := frm.cell f1 h5 (by omega)
  have h6 := frm.cell f1 h6 (by omega)
  have h7 := frm.cell f1 h7 (by omega)
  have h8 := frm.cell f1 h8 (by omega)
  have h10 := frm.cell f1 h10 (by omega)
  have fr := fr.step f1 (by omega) (by omega)
  refine Ev.iinc (d := 1) rfl rfl rfl (by decide) rfl ?_
  refine Ev.goto (tgt := 12) rfl (by decide) ?_
  refine Ev.iload_n rfl rfl ?_
  refine Ev.bipush (v := 7) rfl (by decide) ?_
  refine Ev.jge (tgt := 39) rfl (by decide) (fun c15 => absurd (by decide) c15) (fun c15 => ?_)
  refine Ev.aload_n rfl rfl ?_
  refine Ev.getf rfl rfl h0 rfl ?_
  refine Ev.iload_n rfl rfl ?_
  refine Ev.iconst (v := 0) rfl (by decide) ?_
  refine Ev.iastE (k := 2) rfl h8 (by decide) ⟨(by omega), by decide⟩ (fun τ7 f1 h8 => ?_)
  have h0 := frm.cell f1 h0 (by omega)
  have h1 := frm.cell f1 h1 (by omega)
  have h2 := frm.cell f1 h2 (by omega)
  have h3 := frm.cell f1 h3 (by omega)
  have h4 := frm.cell f1 h4 (by omega)
  have h5 := frm.cell f1 h5 (by omega)
  have h6 := frm.cell f1 h6 (by omega)
  have h7 := frm.cell f1 h7 (by omega)
  have h9 := frm.cell f1 h9 (by omega)
  have h10 := frm.cell f1 h10 (by omega)
  have fr := fr.step f1 (by omega) (by omega)
  refine Ev.aload_n rfl rfl ?_
  refine Ev.getf rfl rfl h0 rfl ?_
  refine Ev.iload_n rfl rfl ?_
  refine Ev.bipush (v := 100) rfl (by decide) ?_
  refine Ev.iastE (k := 2) rfl h9 (by decide) ⟨(by omega), by decide⟩ (fun τ8 f1 h9 => ?_)
  have h0 := frm.cell f1 h0 (by omega)
  have h1 := frm.cell f1 h1 (by omega)
  have h2 := frm.cell f1 h2 (by omega)
  have h3 := frm.cell f1 h3 (by omega)
  have h4 := frm.cell f1 h4 (by omega)
  have h5 := frm.cell f1 h5 (by omega)
  have h6 := frm.cell f1 h6 (by omega)
  have h7 := frm.cell f1 h7 (by omega)
  have h8 := frm.cell f1 h8 (by omega)
  have h10 := frm.cell f1 h10 (by omega)
  have fr := fr.step f1 (by omega) (by omega)
  refine Ev.iinc (d := 1) rfl rfl rfl (by decide) rfl ?_
  refine Ev.goto (tgt := 12) rfl (by decide) ?_
  refine Ev.iload_n rfl rfl ?_
  refine Ev.bipush (v := 7) rfl (by decide) ?_
  refine Ev.jge (tgt := 39) rfl (by decide) (fun c15 => absurd (by decide) c15) (fun c15 => ?_)
  refine Ev.aload_n rfl rfl ?_
  refine Ev.getf rfl rfl h0 rfl ?_
  refine Ev.iload_n rfl rfl ?_
  refine Ev.iconst (v := 0) rfl (by decide) ?_
  refine Ev.iastE (k := 3) rfl h8 (by decide) ⟨(by omega), by decide⟩ (fun τ9 f1 h8 => ?_)
  have h0 := frm.cell f1 h0 (by omega)
  have h1 := frm.cell f1 h1 (by omega)
  have h2 := frm.cell f1 h2 (by omega)
  have h3 := frm.cell f1 h3 (by omega)
  have h4 := frm.cell f1 h4 (by omega)
  have h5 := frm.cell f1 h5 (by omega)
  have h6 := frm.cell f1 h6 (by omega)
  have h7 := frm.cell f1 h7 (by omega)
  have h9 := frm.cell f1 h9 (by omega)
  have h10 := frm.cell f1 h10 (by omega)
  have fr := fr.step f1 (by omega) (by omega)
  refine Ev.aload_n rfl rfl ?_
  refine Ev.getf rfl rfl h0 rfl ?_
  refine Ev.iload_n rfl rfl ?_
  refine Ev.bipush (v := 100) rfl (by decide) ?_
  refine Ev.iastE (k := 3) rfl h9 (by decide) ⟨(by omega), by decide⟩ (fun τ10 f1 h9 => ?_)
  have h0 := frm.cell f1 h0 (by omega)
  have h1 := frm.cell f1 h1 (by omega)
  have h2 := frm.cell f1 h2 (by omega)
  have h3 := frm.cell f1 h3 (by omega)
  have h4 := frm.cell f1 h4 (by omega)
  have h5 := frm.cell f1 h5 (by omega)
  have h6 := frm.cell f1 h6 (by omega)
  have h7 := frm.cell f1 h7 (by omega)
  have h8 := frm.cell f1 h8 (by omega)
  have h10 := frm.cell f1 h10 (by omega)
  have fr := fr.step f1 (by omega) (by omega)
  refine Ev.iinc (d := 1) rfl rfl rfl (by decide) rfl ?_
  refine Ev.goto (tgt := 12) rfl (by decide) ?_
  refine Ev.iload_n rfl rfl ?_
  refine Ev.bipush (v := 7) rfl (by decide) ?_
  refine Ev.jge (tgt := 39) rfl (by decide) (fun c15 => absurd (by decide) c15) (fun c15 => ?_)
  refine Ev.aload_n rfl rfl ?_
  refine Ev.getf rfl rfl h0 rfl ?_
  refine Ev.iload_n rfl rfl ?_
  refine Ev.iconst (v := 0) rfl (by decide) ?_
  refine Ev.iastE (k := 4) rfl h8 (by decide) ⟨(by omega), by decide⟩ (fun τ11 f1 h8 => ?_)
  have h0 := frm.cell f1 h0 (by omega)
  have h1 := frm.cell f1 h1 (by omega)
  have h2 := frm.cell f1 h2 (by omega)
  have h3 := frm.cell f1 h3 (by omega)
  have h4 := frm.cell f1 h4 (by omega)
  have h5 := frm.cell f1 h5 (by omega)
  have h6 := frm.cell f1 h6 (by omega)
  have h7 := frm.cell f1 h7 (by omega)
  have h9 := frm.cell f1 h9 (by omega)
  have h10 := frm.cell f1 h10 (by omega)
  have fr := fr.step f1 (by omega) (by omega)
  refine Ev.aload_n rfl rfl ?_
  refine Ev.getf rfl rfl h0 rfl ?_
  refine Ev.iload_n rfl rfl ?_
  refine Ev.bipush (v := 100) rfl (by decide) ?_
  refine Ev.iastE (k := 4) rfl h9 (by decide) ⟨(by omega), by decide⟩ (fun τ12 f1 h9 => ?_)
  have h0 := frm.cell f1 h0 (by omega)
  have h1 := frm.cell f1 h1 (by omega)
  have h2 := frm.cell f1 h2 (by omega)
  have h3 := frm.cell f1 h3 (by omega)
  have h4 := frm.cell f1 h4 (by omega)
  have h5 := frm.cell f1 h5 (by omega)
  have h6 := frm.cell f1 h6 (by omega)
  have h7 := frm.cell f1 h7 (by omega)
  have h8 := frm.cell f1 h8 (by omega)
  have h10 := frm.cell f1 h10 (by omega)
  have fr := fr.step f1 (by omega) (by omega)
  refine Ev.iinc (d := 1) rfl rfl rfl (by decide) rfl ?_
  refine Ev.goto (tgt := 12) rfl (by decide) ?_
  refine Ev.iload_n rfl rfl ?_
  refine Ev.bipush (v := 7) rfl (by decide) ?_
  refine Ev.jge (tgt := 39) rfl (by decide) (fun c15 => absurd (by decide) c15) (fun c15 => ?_)
  refine Ev.aload_n rfl rfl ?_
  refine Ev.getf rfl rfl h0 rfl ?_
  refine Ev.iload_n rfl rfl ?_
  refine Ev.iconst (v := 0) rfl (by decide) ?_
  refine Ev.iastE (k := 5) rfl h8 (by decide) ⟨(by omega), by decide⟩ (fun τ13 f1 h8 => ?_)
  have h0 := frm.cell f1 h0 (by omega)
  have h1 := frm.cell f1 h1 (by omega)
  have h2 := frm.cell f1 h2 (by omega)
  have h3 := frm.cell f1 h3 (by omega)
  have h4 := frm.cell f1 h4 (by omega)
  have h5 := frm.cell f1 h5 (by omega)
  have h6 := frm.cell f1 h6 (by omega)
  have h7 := frm.cell f1 h7 (by omega)
  have h9 := frm.cell f1 h9 (by omega)
  have h10 := frm.cell f1 h10 (by omega)
  have fr := fr.step f1 (by omega) (by omega)
  refine Ev.aload_n rfl rfl ?_
  refine Ev.getf rfl rfl h0 rfl ?_
  refine Ev.iload_n rfl rfl ?_
  refine Ev.bipush (v := 100) rfl (by decide) ?_
  refine Ev.iastE (k := 5) rfl h9 (by decide) ⟨(by omega), by decide⟩ (fun τ14 f1 h9 => ?_)
  have h0 := frm.cell f1 h0 (by omega)
  have h1 := frm.cell f1 h1 (by omega)
  have h2 := frm.cell f1 h2 (by omega)
  have h3 := frm.cell f1 h3 (by omega)
  have h4 := frm.cell f1 h4 (by omega)
  have h5 := frm.cell f1 h5 (by omega)
  have h6 := frm.cell f1 h6 (by omega)
  have h7 := frm.cell f1 h7 (by omega)
  have h8 := frm.cell f1 h8 (by omega)
  have h10 := frm.cell f1 h10 (by omega)
  have fr := fr.step f1 (by omega) (by omega)
  refine Ev.iinc (d := 1) rfl rfl rfl (by decide) rfl ?_
  refine Ev.goto (tgt := 12) rfl (by decide) ?_
  refine Ev.iload_n rfl rfl ?_
  refine Ev.bipush (v := 7) rfl (by decide) ?_
  refine Ev.jge (tgt := 39) rfl (by decide) (fun c15 => absurd (by decide) c15) (fun c15 => ?_)
  refine Ev.aload_n rfl rfl ?_
  refine Ev.getf rfl rfl h0 rfl ?_
  refine Ev.iload_n rfl rfl ?_
  refine Ev.iconst (v := 0) rfl (by decide) ?_
  refine Ev.iastE (k := 6) rfl h8 (by decide) ⟨(by omega), by decide⟩ (fun τ15 f1 h8 => ?_)
  have h0 := frm.cell f1 h0 (by omega)
  have h1 := frm.cell f1 h1 (by omega)
  have h2 := frm.cell f1 h2 (by omega)
  have h3 := frm.cell f1 h3 (by omega)
  have h4 := frm.cell f1 h4 (by omega)
  have h5 := frm.cell f1 h5 (by omega)
  have h6 := frm.cell f1 h6 (by omega)
  have h7 := frm.cell f1 h7 (by omega)
  have h9 := frm.cell f1 h9 (by omega)
  have h10 := frm.cell f1 h10 (by omega)
  have fr := fr.step f1 (by omega) (by omega)
  refine Ev.aload_n rfl rfl ?_
  refine Ev.getf rfl rfl h0 rfl ?_
  refine Ev.iload_n rfl rfl ?_
  refine Ev.bipush (v := 100) rfl (by decide) ?_
  refine Ev.iastE (k := 6) rfl h9 (by decide) ⟨(by omega), by decide⟩ (fun τ16 f1 h9 => ?_)
  have h0 := frm.cell f1 h0 (by omega)
  have h1 := frm.cell f1 h1 (by omega)
  have h2 := frm.cell f1 h2 (by omega)
  have h3 := frm.cell f1 h3 (by omega)
  have h4 := frm.cell f1 h4 (by omega)
  have h5 := frm.cell f1 h5 (by omega)
  have h6 := frm.cell f1 h6 (by omega)
  have h7 := frm.cell f1 h7 (by omega)
  have h8 := frm.cell f1 h8 (by omega)
  have h10 := frm.cell f1 h10 (by omega)
  have fr := fr.step f1 (by omega) (by omega)
  refine Ev.iinc (d := 1) rfl rfl rfl (by decide) rfl ?_
  refine Ev.goto (tgt := 12) rfl (by decide) ?_
  refine Ev.iload_n rfl rfl ?_
  refine Ev.bipush (v := 7) rfl (by decide) ?_
  refine Ev.jge (tgt := 39) rfl (by decide) (fun c15 => ?_) (fun c15 => absurd c15 (by decide))
  refine Ev.getsFR rfl rfl ?_
  rw [hFR1]
  refine Ev.iconst (v := 0) rfl (by decide) ?_
  refine Ev.aload_n rfl rfl ?_
  refine Ev.getf rfl rfl h0 rfl ?_
  refine Ev.iconst (v := 0) rfl (by decide) ?_
  refine Ev.bipush (v := 11) rfl (by decide) ?_
  refine Ev.copySE rfl rfl hFR2 h10 (rfl : _ = nI 11) (by decide) rfl (Nat.le_of_ble_eq_true rfl) (fun τ17 f1 h10 => ?_)
  have h0 := frm.cell f1 h0 (by omega)
  have h1 := frm.cell f1 h1 (by omega)
  have h2 := frm.cell f1 h2 (by omega)
  have h3 := frm.cell f1 h3 (by omega)
  have h4 := frm.cell f1 h4 (by omega)
  have h5 := frm.cell f1 h5 (by omega)
  have h6 := frm.cell f1 h6 (by omega)
  have h7 := frm.cell f1 h7 (by omega)
  have h8 := frm.cell f1 h8 (by omega)
  have h9 := frm.cell f1 h9 (by omega)
  have fr := fr.step f1 (by omega) (by omega)
  refine Ev.ret rfl rfl (Nat.le_refl _) (Nat.le_refl _) ?_
  rw [← hQ]
  exact ⟨rfl, fr, ⟨h0, h1, h2, h3, h4, h5, h6, h7, h8, h9, h10⟩⟩
end
end
