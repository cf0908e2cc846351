/-! Texts (class): a line is read. -/
noncomputable section
theorem isS.of {σ τ : ex_S} {a : Nat} {S : Sch} (h : isS σ a S) (hq : ∀ q, a ≤ q → q < a + 11 → τ.2 q = σ.2 q) : isS τ a S := by
  obtain ⟨h0, h1, h2, h3, h4, h5, h6, h7, h8, h9, h10⟩ := h
  exact ⟨(hq _ (by omega) (by omega)).trans h0, (hq _ (by omega) (by omega)).trans h1, (hq _ (by omega) (by omega)).trans h2, (hq _ (by omega) (by omega)).trans h3, (hq _ (by omega) (by omega)).trans h4, (hq _ (by omega) (by omega)).trans h5, (hq _ (by omega) (by omega)).trans h6, (hq _ (by omega) (by omega)).trans h7, (hq _ (by omega) (by omega)).trans h8, (hq _ (by omega) (by omega)).trans h9, (hq _ (by omega) (by omega)).trans h10⟩
theorem isP.of {σ τ : ex_S} {p : Nat} {P : Pln} (h : isP σ p P) (hq : ∀ q, p ≤ q → q < p + 8 → τ.2 q = σ.2 q) : isP τ p P := by
  obtain ⟨h0, ⟨f, h1, h2⟩, h3⟩ := h
  refine ⟨(hq _ (by omega) (by omega)).trans h0, ⟨f, (hq _ (by omega) (by omega)).trans h1, h2⟩, fun k hk => ?_⟩
  have e := h3 k hk
  unfold isL at e ⊢
  exact (hq _ (by omega) (by omega)).trans e
section
variable {U : Nat → Nat} {n e : Nat} {tk en va : Int32}
/-- what the class's token tells -/
theorem csc_w (h : csc U n e tk en va) (hk : tk = 1) : ltr (U (tS0 U n e)) = true ∧ en = nI (tL U n e) ∧ tE U n e = tL U n e ∧ tK U n e = (if tW U n e = 99 then 4 else 3) := by
  subst hk
  rcases h with ⟨_, q⟩ | ⟨_, q, _⟩ | ⟨_, q, _⟩ | ⟨q1, _, q2⟩ | ⟨_, q⟩
  · exact absurd q (by decide)
  · exact absurd q (by decide)
  · exact absurd q (by decide)
  · have w := tok_l (U := U) (n := n) (e := e) rfl q1
    exact ⟨q1, q2, w.2, w.1⟩
  · exact absurd q (by decide)
theorem csc_nw (h : csc U n e tk en va) (hk : ¬ tk = 1) : ¬ tK U n e = 3 := by
  rcases h with ⟨a, q⟩ | ⟨a, q, _⟩ | ⟨a, q, _⟩ | ⟨q1, q, q2⟩ | ⟨a, q⟩
  · omega
  · omega
  · omega
  · exact absurd q hk
  · omega
theorem csc_2 (h : csc U n e tk en va) (hk : tk = 2) : tK U n e = 1 ∧ va = nI (tV U n e) ∧ en = nI (tE U n e) := by
  subst hk
  rcases h with ⟨_, q⟩ | ⟨a, _, q1, q2⟩ | ⟨_, q, _⟩ | ⟨_, q, _⟩ | ⟨_, q⟩
  · exact absurd q (by decide)
  · exact ⟨a, q1, q2⟩
  · exact absurd q (by decide)
  · exact absurd q (by decide)
  · exact absurd q (by decide)
theorem csc_n2 (h : csc U n e tk en va) (hk : ¬ tk = 2) : ¬ tK U n e = 1 := by
  rcases h with ⟨a, q⟩ | ⟨a, q, _⟩ | ⟨a, q, _⟩ | ⟨q1, q, q2⟩ | ⟨a, q⟩
  · omega
  · exact absurd q hk
  · omega
  · have w := (tok_l (U := U) (n := n) (e := e) rfl q1).1
    split at w <;> omega
  · omega
theorem csc_3 (h : csc U n e tk en va) (hk : tk = 3) : tK U n e = 2 ∧ en = nI (tE U n e) := by
  subst hk
  rcases h with ⟨_, q⟩ | ⟨_, q, _⟩ | ⟨a, _, q1⟩ | ⟨_, q, _⟩ | ⟨_, q⟩
  · exact absurd q (by decide)
  · exact absurd q (by decide)
  · exact ⟨a, q1⟩
  · exact absurd q (by decide)
  · exact absurd q (by decide)
theorem csc_n3 (h : csc U n e tk en va) (hk : ¬ tk = 3) : ¬ tK U n e = 2 := by
  rcases h with ⟨a, q⟩ | ⟨a, q, _⟩ | ⟨a, q, _⟩ | ⟨q1, q, q2⟩ | ⟨a, q⟩
  · omega
  · omega
  · exact absurd q hk
  · have w := (tok_l (U := U) (n := n) (e := e) rfl q1).1
    split at w <;> omega
  · omega
theorem csc_0 (h : csc U n e tk en va) : tk = 0 ↔ tK U n e = 0 := by
  rcases h with ⟨a, q⟩ | ⟨a, q, _⟩ | ⟨a, q, _⟩ | ⟨q1, q, q2⟩ | ⟨a, q⟩
  · exact ⟨fun _ => a, fun _ => q⟩
  · exact ⟨fun z => absurd (q.symm.trans z) (by decide), fun z => absurd (a.symm.trans z) (by decide)⟩
  · exact ⟨fun z => absurd (q.symm.trans z) (by decide), fun z => absurd (a.symm.trans z) (by decide)⟩
  · have w := (tok_l (U := U) (n := n) (e := e) rfl q1).1
    exact ⟨fun z => absurd (q.symm.trans z) (by decide), fun z => by split at w <;> omega⟩
  · exact ⟨fun z => absurd (q.symm.trans z) (by decide), fun z => absurd (a.symm.trans z) (by decide)⟩
end
section
variable {U : Nat → Nat} {n k L : Nat} {s : Rs}
theorem NU_le : ∀ i, NUl.getD i 0 ≤ 4 := by
  intro i
  by_cases c : i < 21
  · exact (by decide : ∀ i, i < 21 → NUl.getD i 0 ≤ 4) i c
  · rw [List.getD_eq_getElem?_getD, List.getElem?_eq_none (show NUl.length ≤ i from Nat.le_of_not_lt c)]
    decide
/-- one step of the chain where a number stands -/
theorem tkn_st {g : Bool} {k j n0 v : Nat} (hw : Rw s = false) (hk : tK U n (Re s) = 1) (hg : g = gds k j n0 L v) : Rf (tkn k j n0 L v s (tS0 U n (Re s))) = Rf (nst U n g s) ∧ Rp (tkn k j n0 L v s (tS0 U n (Re s))) = Rp (nst U n g s) ∧ Re (nst U n g s) = tE U n (Re s) ∧ Rw (nst U n g s) = false := by
  subst hg
  unfold tkn
  by_cases c : gds k j n0 L v = true
  · rw [if_pos c, c, nst_good hw hk]
    exact ⟨rfl, rfl, rfl, rfl⟩
  · rw [if_neg c, show gds k j n0 L v = false by simpa using c, nst_bad hw hk]
    exact ⟨rfl, rfl, rfl, rfl⟩
/-- the chain stays where no number stands -/
theorem chn_stuck {j : Nat} (hk : ¬ tK U n (Re (chn U n k L s j)) = 1) : ∀ i, chn U n k L s (j + 1 + i) = (true, Re (chn U n k L s j), Rf (chn U n k L s j), Rp (chn U n k L s j))
  | 0 => nst_w (Or.inr hk)
  | i + 1 => by
    have h := chn_stuck hk i
    show nst U n _ (chn U n k L s (j + 1 + i)) = _
    rw [h]
    exact nst_w (Or.inl rfl)
/-- no fault behind the chain: each number could be -/
theorem chn_good : ∀ m, Rw (chn U n k L s m) = false → Rf (chn U n k L s m) = 0 → Rw s = false ∧ Rf s = 0 ∧ ∀ j, j < m → gds k j (tV U n (Re s)) L (tV U n (Re (chn U n k L s j))) = true
  | 0, hw, hf => ⟨hw, hf, fun j h => absurd h (Nat.not_lt_zero _)⟩
  | m + 1, hw, hf => by
    obtain ⟨w, kk, f, g, _⟩ := nst_f0 (s := chn U n k L s m) hw hf
    obtain ⟨a, b, c⟩ := chn_good m w f
    refine ⟨a, b, fun j hj => ?_⟩
    by_cases e : j = m
    · subst e
      exact g
    · exact c j (by omega)
theorem rel_y (hw : Rw s = false) (hk : tK U n (Re s) = 2) : rel U n s = (false, tE U n (Re s), Rf s, Rp s) := if_pos ⟨hw, hk⟩
theorem rel_n (h : Rw s = true ∨ ¬ tK U n (Re s) = 2) : rel U n s = (true, Re s, Rf s, Rp s) := if_neg (fun c => h.elim (fun q => by rw [c.1] at q; cases q) (fun q => q c.2))
end
theorem gds_1 {n0 L v w : Nat} (h0 : gds 1 0 n0 L v = true) (h1 : gds 1 1 n0 L w = true) : v < L ∧ w < L := by
  have a : (decide (v < L) && (decide (0 = 0) || !decide (v = n0))) = true := h0
  have b : (decide (w < L) && (decide (1 = 0) || !decide (w = n0))) = true := h1
  simp at a b
  exact ⟨a, b.1⟩
theorem gds_2 {n0 L v : Nat} (h0 : gds 2 0 n0 L v = true) : v < L := of_decide_eq_true h0
theorem gds_4 {k n0 L v : Nat} (hk : k = 4 ∨ k = 5) (h0 : gds k 0 n0 L v = true) : v ≤ 3 := by
  rcases hk with e | e
  · subst e
    have a : (decide (0 ≤ v) && decide (v ≤ 3)) = true := h0
    simp at a
    exact a
  · subst e
    have a : (decide (1 ≤ v) && decide (v ≤ 3)) = true := h0
    simp at a
    exact a.2
section
variable {U : Nat → Nat} {n : Nat} {s : Rs}
theorem sit_one {e : Nat} (h : sitEnd U n s e) (hw : Rw (chs U n s 1) = true) : e = 1 := by
  by_cases c : e = 1
  · exact c
  · have := (h.2.1 1 (Nat.le_refl _) (by have := h.1; omega)).1
    rw [hw] at this
    cases this
theorem sit_uniq {e j : Nat} (h : sitEnd U n s e) (hw : Rw s = false) (hj : 1 ≤ j) (htk : ∀ i, i < j → tK U n (Re (chs U n s i)) = 1) (hnk : ¬ tK U n (Re (chs U n s j)) = 1) : e = j := by
  have hwq : ∀ q, q ≤ j → Rw (chs U n s q) = false := by
    intro q
    induction q with
    | zero => exact fun _ => hw
    | succ q ih =>
      intro hq
      show Rw (nst U n _ (chs U n s q)) = false
      rw [nst_n (ih (by omega)) (htk q (by omega))]
      split <;> rfl
  rcases Nat.lt_trichotomy e j with c | c | c
  · rcases h.2.2 with d | d
    · rw [hwq e (by omega)] at d; cases d
    · exact absurd (htk e c) d
  · exact c
  · exact absurd (h.2.1 j hj c).2 hnk
theorem and15 {v : Nat} (h : v ≤ 15) : (nI v &&& 15) &&& 31 = nI v &&& 31 := (by decide : ∀ v, v < 16 → (nI v &&& (15 : Int32)) &&& 31 = nI v &&& 31) v (by omega)
theorem msk_up {j : Nat} {si : Int32} (hw : Rw (chs U n s j) = false) (hk : tK U n (Re (chs U n s j)) = 1) (h : Rf (chs U n s j) = 0 → si = msk U n s j) : Rf (chs U n s (j + 1)) = 0 → si ||| (1 : Int32) <<< ((nI (tV U n (Re (chs U n s j))) &&& 15) &&& 31) = msk U n s (j + 1) := by
  intro hf
  have hw1 : Rw (chs U n s (j + 1)) = false := by
    show Rw (nst U n _ (chs U n s j)) = false
    rw [nst_n hw hk]
    split <;> rfl
  obtain ⟨_, _, f, g, _⟩ := nst_f0 (s := chs U n s j) hw1 hf
  have g : (decide (0 ≤ tV U n (Re (chs U n s j))) && decide (tV U n (Re (chs U n s j)) ≤ 15)) = true := g
  simp at g
  rw [and15 g, h f]
  rfl
end
section
variable {Γ : ex_G} {σ : ex_S} {x q a p y : Nat} {S : Sch} {T : Tol} {P : Pln} {g A : Nat → Int32}
variable {P : Pln} {U : Nat → Nat} {n r b : Nat} {s : Rs} {c : Nat → Int32}
theorem rdL_s (ht : txt U n) (hc : cbt U n c) (h_tp : σ.2 b = some (.inl (1, 600, c))) (hbr : b < r ∨ r + 21 ≤ b) {tk0 en0 va0 si : Int32} (h_rd : σ.2 r = some (.inr (.inr (5, [.ref (r + 1), .ref (r + 12), .int (nI (Rf s)), .int (Rp s), .ref b, .int (nI n), .int tk0, .int (nI (tS0 U n (Re s))), .int en0, .int va0, .ref (r + 20), .int si])))) {nu : Nat → Int32} (h_nu : σ.2 (r + 20) = some (.inl (0, 4, nu))) (hcs : csc U n (Re s) tk0 en0 va0) (hok : Rok U n s) (hw : Rw s = false) (hR : rdst Γ) (hS : isS σ (r + 1) S) (hP : isP σ (r + 12) P) (hn16 : S.1 ≤ 16) (hn5 : S.2.1 ≤ 5) (h6 : P.1 ≤ 6) (hwt : wtx Γ 0 90 (fun k => wdS.getD k 0)) {k : Nat} (hk15 : k < 15) (hk3 : tK U n (Re s) = 3) (hW : tW U n (Re s) = k + 1) : RetX Γ m_Reader_readLine [.ref r, .int 1] σ r (r + 21) (some (.int (if Rw (rel U n (lnX U n k S s)) = true then 0 else 1))) (fun τ => ∃ (fa pl tk0 st0 en0 va0 si : Int32) (nu1 : Nat → Int32) (S1 : Sch), τ.2 r = some (.inr (.inr (5, [.ref (r + 1), .ref (r + 12), .int fa, .int pl, .ref b, .int (nI n), .int tk0, .int st0, .int en0, .int va0, .ref (r + 20), .int si]))) ∧ τ.2 (r + 20) = some (.inl (0, 4, nu1)) ∧ isS τ (r + 1) S1 ∧ isP τ (r + 12) P ∧ (Rw (rel U n (lnX U n k S s)) = true → st0 = nI (tS0 U n (Re (rel U n (lnX U n k S s))))) ∧ (Rw (rel U n (lnX U n k S s)) = false → fa = nI (Rf (rel U n (lnX U n k S s))) ∧ pl = Rp (rel U n (lnX U n k S s)) ∧ en0 = nI (Re (rel U n (lnX U n k S s))) ∧ S1 = if Rf (rel U n (lnX U n k S s)) = 0 then LnF k (lnN U n k S s) S else S)) := by
  have hn6 := ht.1
  have h600 := tS0_le ht hok.1
  obtain ⟨⟨qhN, hNU1, hNU2⟩, -, -⟩ := id hR
  have hK0 : ¬ tK U n (Re s) = 0 := by omega
  have hNU4 := NU_le k
  have hokS : Rok U n (lnS U n k S s) := lstS_ok (lw1_ok ht hok hK0 hw) (tE_st ht hok.1 hK0)
  have hReS : Re (lnS U n k S s) = tE U n (Re s) := by
    unfold lnS lstS
    split
    · exact rnt_e
    · rfl
  have hwS2 : Rw (lnS U n k S s) = false := by
    unfold lnS lstS
    split
    · exact rnt_w
    · rfl
  have hLS0 : Rf (lnS U n k S s) = 0 → (k = 0 → S.1 < 16) ∧ (k = 3 → S.2.1 < 5) := fun f => by
    unfold lnS lstS at f
    split at f
    · exact absurd f (rnt_f0 (by decide))
    · omega
  unfold RetX
  generalize hQ : ((fun (r0 : Option Value) (τ : ex_S) => r0 = some (.int (if Rw (rel U n (lnX U n k S s)) = true then 0 else 1)) ∧ frm σ τ r (r + 21) ∧ (fun τ : ex_S => ∃ (fa pl tk0 st0 en0 va0 si : Int32) (nu1 : Nat → Int32) (S1 : Sch), τ.2 r = some (.inr (.inr (5, [.ref (r + 1), .ref (r + 12), .int fa, .int pl, .ref b, .int (nI n), .int tk0, .int st0, .int en0, .int va0, .ref (r + 20), .int si]))) ∧ τ.2 (r + 20) = some (.inl (0, 4, nu1)) ∧ isS τ (r + 1) S1 ∧ isP τ (r + 12) P ∧ (Rw (rel U n (lnX U n k S s)) = true → st0 = nI (tS0 U n (Re (rel U n (lnX U n k S s))))) ∧ (Rw (rel U n (lnX U n k S s)) = false → fa = nI (Rf (rel U n (lnX U n k S s))) ∧ pl = Rp (rel U n (lnX U n k S s)) ∧ en0 = nI (Re (rel U n (lnX U n k S s))) ∧ S1 = if Rf (rel U n (lnX U n k S s)) = 0 then LnF k (lnN U n k S s) S else S)) τ)) = Q
  refine Ret.start pm_118 rfl ?_
  have fr : frm σ σ r (r + 21) := frm.rf
  refine Ev.aload_n rfl rfl ?_
  refine Ev.getf rfl rfl h_rd rfl ?_
  refine Ev.iconst (v := 1) rfl (by decide) ?_
  refine Ev.jne (tgt := 26) rfl (by decide) (fun c5 => absurd hk3 (csc_nw hcs c5)) (fun c5 => ?_)
  obtain ⟨hlt, hen, hEL, hKW⟩ := csc_w hcs c5
  subst hen
  refine Ev.aload_n rfl rfl ?_
  refine Ev.iload_n rfl rfl ?_
  refine Ev.zeq (tgt := 18) rfl (by decide) (fun c10 => absurd c10 (by decide)) (fun c10 => ?_)
  refine Ev.ldcS (j := 0) rfl rfl rfl ?_
  refine Ev.goto (tgt := 20) rfl (by decide) ?_
  obtain ⟨wv1, wv0⟩ := wrd_y (i := k) ht hok.1 hwt wdS_1 wdS_2 wnS_r wnS_i hk15 (by unfold wnS; exact hW)
  obtain ⟨hl1, hl2, hl3, -⟩ := tL_sp ht hok.1
  refine Ev.cV1 rfl rfl h_rd rfl rfl (by decide) ⟨(Nat.le_refl _), (Nat.le_refl _)⟩ (wordIn_ok ht hc h_tp hwt hl1 hl2 hl3 h_rd wv1 wv0) ?_
  refine Ev.goto (tgt := 27) rfl (by decide) ?_
  refine Ev.istore_n rfl rfl rfl ?_
  refine Ev.iload_n rfl rfl ?_
  refine Ev.zne (tgt := 37) rfl (by decide) (fun c29 => ?_) (fun c29 => absurd c29 (by decide))
  refine Ev.iload_n rfl rfl ?_
  refine Ev.goto (tgt := 45) rfl (by decide) ?_
  refine Ev.istore_n rfl rfl rfl ?_
  refine Ev.iload_n rfl rfl ?_
  refine Ev.zlt (tgt := 58) rfl (by decide) (fun c47 => absurd c47 (nI_pos (by omega))) (fun c47 => ?_)
  refine Ev.iload_n rfl rfl ?_
  refine Ev.gets (g := 1) rfl rfl ?_
  rw [hNU1]
  refine Ev.alenS rfl hNU2 rfl ?_
  refine Ev.jlt (tgt := 60) rfl (by decide) (fun c55 => ?_) (fun c55 => absurd (nI_lt (a := k) (b := 21) (by omega) (by decide)) c55)
  refine Ev.aload_n rfl rfl ?_
  refine Ev.iload_n rfl rfl ?_
  refine Ev.xV1u rfl rfl h_rd rfl rfl (by decide) ⟨(Nat.le_refl _), (Nat.le_refl _)⟩ (chkW_s (s := lw1 U n s) h_rd hS hP hn16 hn5 h6 hok.2.1 hk15) (fun τ500 f9 h_rd => ?_)
  have h_nu := frm.cell f9 h_nu (by omega)
  have h_tp := frm.cell f9 h_tp (by omega)
  have hS := hS.frm f9 (by omega)
  have hP := hP.frm f9 (by omega)
  have fr := fr.step f9 (by omega) (by omega)
  obtain ⟨s2, hs2⟩ : ∃ q, q = lnS U n k S s := ⟨_, rfl⟩
  have h_rd : τ500.2 r = some (.inr (.inr (5, [(.ref (r + 1)), (.ref (r + 12)), (.int (nI (Rf s2))), (.int (Rp s2)), (.ref b), (.int (nI n)), (.int tk0), (.int (nI (tS0 U n (Re s)))), (.int (nI (tL U n (Re s)))), (.int va0), (.ref (r + 20)), (.int si)]))) := by
    rw [hs2]
    exact h_rd
  have hok2 : Rok U n s2 := by rw [hs2]; exact hokS
  have hw2 : Rw s2 = false := by rw [hs2]; exact hwS2
  have hRe : tL U n (Re s) = Re s2 := by rw [hs2, hReS]; exact hEL.symm
  rw [hRe] at h_rd
  refine Ev.aload_n rfl rfl ?_
  refine Ev.iconst (v := 0) rfl (by decide) ?_
  refine Ev.putE rfl rfl h_rd rfl rfl rfl (Nat.le_of_ble_eq_true rfl) (fun τ1 f1 h_rd => ?_)
  replace h_rd : τ1.2 r = some (.inr (.inr (5, [(.ref (r + 1)), (.ref (r + 12)), (.int (nI (Rf s2))), (.int (Rp s2)), (.ref b), (.int (nI n)), (.int tk0), (.int (nI (tS0 U n (Re s)))), (.int (nI (Re s2))), (.int va0), (.ref (r + 20)), (.int (0 : Int32))]))) := h_rd
  have h_nu := frm.cell f1 h_nu (by omega)
  have h_tp := frm.cell f1 h_tp (by omega)
  have hS := hS.frm f1 (by omega)
  have hP := hP.frm f1 (by omega)
  have fr := fr.step f1 (by omega) (by omega)
  refine Ev.iload_n rfl rfl ?_
  refine Ev.bipush (v := 20) rfl (by decide) ?_
  refine Ev.jne (tgt := 82) rfl (by decide) (fun c73 => ?_) (fun c73 => absurd (nI_injL (b := 20) (by omega) (by decide) c73) (by omega))
  refine Ev.gets (g := 1) rfl rfl ?_
  rw [hNU1]
  refine Ev.iload_n rfl rfl ?_
  refine Ev.ialdSN (k := k) rfl hNU2 rfl ⟨(by omega), by decide⟩ ?_
  refine Ev.istore rfl rfl rfl ?_
  refine Ev.iconst (v := 0) rfl (by decide) ?_
  refine Ev.istore rfl rfl rfl ?_
  refine Ev.aload_n rfl rfl ?_
  refine Ev.xV0u rfl rfl h_rd rfl rfl (by decide) ⟨(Nat.le_refl _), (Nat.le_refl _)⟩ (scan_ok ht hc h_tp (by omega) h_rd hok2.1) (fun τ511 f9 q9 => ?_)
  obtain ⟨tk9, en9, va9, h_rd, hcs9⟩ := q9
  have h_nu := frm.cell f9 h_nu (by omega)
  have h_tp := frm.cell f9 h_tp (by omega)
  have hS := hS.frm f9 (by omega)
  have hP := hP.frm f9 (by omega)
  have fr := fr.step f9 (by omega) (by omega)
  have hl96 : ∀ (m96 : Nat) (j : Nat) (tk1 : Int32) (en1 : Int32) (va1 : Int32) (si1 : Int32) (nu1 : (Nat → Int32)), (j ≤ (NUl.getD k 0) ∧ csc U n (Re (chn U n k S.1 s2 j)) tk1 en1 va1 ∧ Rw (chn U n k S.1 s2 j) = false ∧ (∀ i, i < j → tK U n (Re (chn U n k S.1 s2 i)) = 1) ∧ (∀ i, i < j → nu1 i = nI (tV U n (Re (chn U n k S.1 s2 i))))) → (5 - j) < m96 → ∀ τ96 : ex_S, frm σ τ96 r (r + 21) → τ96.2 r = some (.inr (.inr (5, [(.ref (r + 1)), (.ref (r + 12)), (.int (nI (Rf (chn U n k S.1 s2 j)))), (.int (Rp (chn U n k S.1 s2 j))), (.ref b), (.int (nI n)), (.int tk1), (.int (nI (tS0 U n (Re (chn U n k S.1 s2 j))))), (.int en1), (.int va1), (.ref (r + 20)), (.int si1)]))) → τ96.2 (r + 20) = some (.inl (0, 4, nu1)) → τ96.2 b = some (.inl (1, 600, c)) → isS τ96 (r + 1) S → isP τ96 (r + 12) P → Ev Γ 0 0 m_Reader_readLine 0 0 96 [some (.ref r), none, none, some (.int (nI k)), some (.int (nI (NUl.getD k 0))), some (.int (nI j))] [] τ96 Q := by
    intro m96
    induction m96 with
    | zero => intro j tk1 en1 va1 si1 nu1 _ hm; exact absurd hm (Nat.not_lt_zero _)
    | succ m96 ih96 =>
      intro j tk1 en1 va1 si1 nu1 hJ96 hm96
      intro τ96 fr h_rd h_nu h_tp hS hP
      have hNU4 := NU_le k
      obtain ⟨hjm, hcs, hwj, htk, hnu⟩ := hJ96
      refine Ev.iload rfl rfl ?_
      refine Ev.iload rfl rfl ?_
      refine Ev.jge (tgt := 138) rfl (by decide) (fun c100 => ?_) (fun c100 => ?_)
      · skip
        have hjm2 : j = NUl.getD k 0 := Nat.le_antisymm hjm (Nat.le_of_not_lt (fun h => c100 (nI_lt h (by omega))))
        refine Ev.iload rfl rfl ?_
        refine Ev.gets (g := 1) rfl rfl ?_
        rw [hNU1]
        refine Ev.iload_n rfl rfl ?_
        refine Ev.ialdSN (k := k) rfl hNU2 rfl ⟨(by omega), by decide⟩ ?_
        refine Ev.jlt (tgt := 156) rfl (by decide) (fun c145 => absurd c145 (nI_nlt (by omega) (by omega))) (fun c145 => ?_)
        refine Ev.aload_n rfl rfl ?_
        refine Ev.getf rfl rfl h_rd rfl ?_
        refine Ev.iconst (v := 3) rfl (by decide) ?_
        refine Ev.jeq (tgt := 158) rfl (by decide) (fun c153 => ?_) (fun c153 => ?_)
        · skip
          refine Ev.aload_n rfl rfl ?_
          refine Ev.getf rfl rfl h_rd rfl ?_
          refine Ev.zne (tgt := 170) rfl (by decide) (fun c162 => ?_) (fun c162 => ?_)
          · skip
            refine Ev.iconst (v := 1) rfl (by decide) ?_
            refine Ev.iret (ty := .boolean) rfl rfl rfl (Nat.le_refl _) (Nat.le_refl _) ?_
            have hX : (lnX U n k S s) = (chn U n k S.1 s2 j) := by
              unfold lnX
              rw [← hs2]
              rw [hjm2]
            obtain ⟨hK2, hE2⟩ := csc_3 hcs c153
            have hR4 : rel U n (lnX U n k S s) = (false, tE U n (Re (chn U n k S.1 s2 j)), Rf (chn U n k S.1 s2 j), Rp (chn U n k S.1 s2 j)) := by
              rw [hX]
              exact rel_y hwj hK2
            have hf3 : ¬ Rf (chn U n k S.1 s2 j) = 0 := fun h => c162 (congrArg nI h)
            rw [← hQ, hR4]
            refine ⟨rfl, fr, _, _, _, _, _, _, _, _, _, h_rd, h_nu, hS, hP, fun h => (nomatch h), fun _ => ⟨rfl, rfl, hE2, (if_neg hf3).symm⟩⟩
          · skip
            refine Ev.aload_n rfl rfl ?_
            refine Ev.iload_n rfl rfl ?_
            have hf3 : Rf (chn U n k S.1 s2 j) = 0 := nI_injL (b := 0) (by have := (chn_ok (k := k) (L := S.1) ht hok2 j).2.1; omega) (by decide) c162
            obtain ⟨_, hf2, hgd⟩ := chn_good j hwj hf3
            have hLS := hLS0 (by rw [← hs2]; exact hf2)
            have hNN : ∀ i, i < NUl.getD k 0 → nu1 i = nI (lnN U n k S s i) := fun i hi => by
              have := hnu i (by omega)
              rw [this]
              unfold lnN nus
              rw [← hs2]
            have hnn : ∀ i, lnN U n k S s i = tV U n (Re (chn U n k S.1 s2 i)) := fun i => by
              unfold lnN nus
              rw [← hs2]
            refine Ev.xV1u rfl rfl h_rd rfl rfl (by decide) ⟨(Nat.le_refl _), (Nat.le_refl _)⟩ (tell_s h_rd h_nu hS hn16 hk15 hNN (fun e => hLS.1 e) (fun e => ?_) (fun e => ?_) (fun e => hLS.2 e) (fun e => ?_)) (fun τ560 f9 q9 => ?_)
            · subst e
              have g0 := hgd 0 (by rw [hjm2]; decide)
              have g1 := hgd 1 (by rw [hjm2]; decide)
              rw [hnn, hnn]
              exact gds_1 g0 g1
            · subst e
              have g0 := hgd 0 (by rw [hjm2]; decide)
              rw [hnn]
              exact gds_2 g0
            · have g0 := hgd 0 (by rw [hjm2]; rcases e with e | e <;> (rw [e]; decide))
              rw [hnn]
              exact gds_4 e g0
            have hP := hP.frm f9 (by omega)
            have h_rd := frm.cell f9 h_rd (by omega)
            have h_nu := frm.cell f9 h_nu (by omega)
            have fr := fr.step f9 (by omega) (by omega)
            refine Ev.iconst (v := 1) rfl (by decide) ?_
            refine Ev.iret (ty := .boolean) rfl rfl rfl (Nat.le_refl _) (Nat.le_refl _) ?_
            have hX : (lnX U n k S s) = (chn U n k S.1 s2 j) := by
              unfold lnX
              rw [← hs2]
              rw [hjm2]
            obtain ⟨hK2, hE2⟩ := csc_3 hcs c153
            have hR4 : rel U n (lnX U n k S s) = (false, tE U n (Re (chn U n k S.1 s2 j)), Rf (chn U n k S.1 s2 j), Rp (chn U n k S.1 s2 j)) := by
              rw [hX]
              exact rel_y hwj hK2
            rw [← hQ, hR4]
            refine ⟨rfl, fr, _, _, _, _, _, _, _, _, _, h_rd, h_nu, q9, hP, fun h => (nomatch h), fun _ => ⟨rfl, rfl, hE2, (if_pos hf3).symm⟩⟩
        · skip
          refine Ev.iconst (v := 0) rfl (by decide) ?_
          refine Ev.iret (ty := .boolean) rfl rfl rfl (Nat.le_refl _) (Nat.le_refl _) ?_
          have hX : (lnX U n k S s) = (chn U n k S.1 s2 j) := by
            unfold lnX
            rw [← hs2]
            rw [hjm2]
          have hR4 : rel U n (lnX U n k S s) = (true, Re (chn U n k S.1 s2 j), Rf (chn U n k S.1 s2 j), Rp (chn U n k S.1 s2 j)) := by
            rw [hX]
            exact rel_n (Or.inr (csc_n3 hcs c153))
          rw [← hQ, hR4]
          refine ⟨rfl, fr, _, _, _, _, _, _, _, _, _, h_rd, h_nu, hS, hP, fun _ => ?_, fun h => (nomatch h)⟩
          rfl
      · skip
        refine Ev.aload_n rfl rfl ?_
        refine Ev.getf rfl rfl h_rd rfl ?_
        refine Ev.iconst (v := 2) rfl (by decide) ?_
        refine Ev.jne (tgt := 138) rfl (by decide) (fun c108 => ?_) (fun c108 => ?_)
        · skip
          have hjm : j < NUl.getD k 0 := (nI_ltI (by omega) (by omega)).mp c100
          have hnk := csc_n2 hcs c108
          refine Ev.iload rfl rfl ?_
          refine Ev.gets (g := 1) rfl rfl ?_
          rw [hNU1]
          refine Ev.iload_n rfl rfl ?_
          refine Ev.ialdSN (k := k) rfl hNU2 rfl ⟨(by omega), by decide⟩ ?_
          refine Ev.jlt (tgt := 156) rfl (by decide) (fun c145 => ?_) (fun c145 => absurd (nI_lt hjm (by omega)) c145)
          refine Ev.iconst (v := 0) rfl (by decide) ?_
          refine Ev.iret (ty := .boolean) rfl rfl rfl (Nat.le_refl _) (Nat.le_refl _) ?_
          have hX : (lnX U n k S s) = (true, Re (chn U n k S.1 s2 j), Rf (chn U n k S.1 s2 j), Rp (chn U n k S.1 s2 j)) := by
            unfold lnX
            rw [← hs2]
            have := chn_stuck hnk (NUl.getD k 0 - (j + 1))
            rwa [show j + 1 + (NUl.getD k 0 - (j + 1)) = NUl.getD k 0 by omega] at this
          have hR4 : rel U n (lnX U n k S s) = (true, Re (chn U n k S.1 s2 j), Rf (chn U n k S.1 s2 j), Rp (chn U n k S.1 s2 j)) := by
            rw [hX]
            exact rel_n (Or.inl rfl)
          rw [← hQ, hR4]
          refine ⟨rfl, fr, _, _, _, _, _, _, _, _, _, h_rd, h_nu, hS, hP, fun _ => ?_, fun h => (nomatch h)⟩
          rfl
        · skip
          refine Ev.aload_n rfl rfl ?_
          refine Ev.iload_n rfl rfl ?_
          refine Ev.iload_n rfl rfl ?_
          refine Ev.bipush (v := 20) rfl (by decide) ?_
          refine Ev.jne (tgt := 123) rfl (by decide) (fun c116 => ?_) (fun c116 => absurd (nI_injL (b := 20) (by omega) (by decide) c116) (by omega))
          refine Ev.iload rfl rfl ?_
          have hjl : j < NUl.getD k 0 := (nI_ltI (by omega) (by omega)).mp c100
          obtain ⟨hk1, hva, hen1⟩ := csc_2 hcs c108
          have hokj : Rok U n (chn U n k S.1 s2 j) := chn_ok ht hok2 j
          subst hva
          subst hen1
          have hv0 : tV U n (Re s2) ≤ 999 := by
            by_cases e : j = 0
            · subst e
              exact tV_le ht hok2.1 hk1
            · exact tV_le ht hok2.1 (htk 0 (by omega))
          have hn0 : j = 0 ∨ nu1 0 = nI (tV U n (Re s2)) := by
            by_cases e : j = 0
            · exact Or.inl e
            · exact Or.inr (hnu 0 (by omega))
          have hkj : k = 1 ∨ k = 2 ∨ k = 7 → j < 2 := by
            rintro (e | e | e)
            · rw [e] at hjl; exact hjl
            · rw [e] at hjl; exact hjl
            · rw [e] at hjl; exact hjl
          refine Ev.xV2u rfl rfl h_rd rfl rfl (by decide) ⟨(Nat.le_refl _), (Nat.le_refl _)⟩ (tkN_ok (k := k) (j := j) (v := tV U n (Re (chn U n k S.1 s2 j))) (n0 := tV U n (Re s2)) (S := S) h_rd h_nu hR hS hn16 hokj.2.1 (tV_le ht hokj.1 hk1) hv0 (by omega) (by omega) hn0 hkj) (fun τ540 f9 q9 => ?_)
          obtain ⟨h_rd, h_nu, kp9⟩ := q9
          have hS : isS τ540 (r + 1) S := hS.of (fun q h1 h2 => kp9 q (by omega) (by omega))
          have hP : isP τ540 (r + 12) P := hP.of (fun q h1 h2 => kp9 q (by omega) (by omega))
          have h_tp := frm.cell f9 h_tp (by omega)
          have fr := fr.step f9 (by omega) (by omega)
          obtain ⟨t1, t2, t3, t4⟩ := tkn_st (L := S.1) (k := k) (j := j) (n0 := tV U n (Re s2)) (v := tV U n (Re (chn U n k S.1 s2 j))) hwj hk1 rfl
          have t1 : _ = Rf (chn U n k S.1 s2 (j + 1)) := t1
          have t2 : _ = Rp (chn U n k S.1 s2 (j + 1)) := t2
          have t3 : Re (chn U n k S.1 s2 (j + 1)) = tE U n (Re (chn U n k S.1 s2 j)) := t3
          have t4 : Rw (chn U n k S.1 s2 (j + 1)) = false := t4
          rw [t1, t2, ← t3] at h_rd
          refine Ev.iinc (d := 1) rfl rfl rfl (by decide) rfl ?_
          refine Ev.aload_n rfl rfl ?_
          refine Ev.xV0u rfl rfl h_rd rfl rfl (by decide) ⟨(Nat.le_refl _), (Nat.le_refl _)⟩ (scan_ok ht hc h_tp (by omega) h_rd (chn_ok ht hok2 (j + 1)).1) (fun τ512 f9 q9 => ?_)
          obtain ⟨tk9, en9, va9, h_rd, hcs9⟩ := q9
          have h_nu := frm.cell f9 h_nu (by omega)
          have h_tp := frm.cell f9 h_tp (by omega)
          have hS := hS.frm f9 (by omega)
          have hP := hP.frm f9 (by omega)
          have fr := fr.step f9 (by omega) (by omega)
          refine Ev.goto (tgt := 96) rfl (by decide) ?_
          exact (ih96 (j + 1) tk9 en9 va9 (si1 ||| (1 : Int32) <<< ((nI (tV U n (Re (chn U n k S.1 s2 j))) &&& 15) &&& 31)) (upd nu1 j (nI (tV U n (Re (chn U n k S.1 s2 j))))) (⟨hjl, hcs9, t4, fun i hi => by
            by_cases e : i = j
            · subst e
              exact hk1
            · exact htk i (by omega), fun i hi => by
            by_cases e : i = j
            · subst e
              exact pk_us
            · exact (pk_un e).trans (hnu i (by omega))⟩) (by omega) τ512 fr h_rd h_nu h_tp hS hP).fg (gs rfl (gn (gn (gs rfl (gs rfl (gs (congrArg Value.int (nq_add (a := j) (b := 1) rfl (rfl : (1 : Int32) = nI 1)).symm) gz))))))
  exact (hl96 _ 0 tk9 en9 va9 (0 : Int32) nu (⟨Nat.zero_le _, hcs9, hw2, fun i h => absurd h (Nat.not_lt_zero _), fun i h => absurd h (Nat.not_lt_zero _)⟩) (Nat.lt_succ_self _) τ511 fr h_rd h_nu h_tp hS hP).fg (gs rfl (gn (gn (gs rfl (gs rfl (gs (congrArg Value.int (rfl : (0 : Int32) = nI 0).symm) gz))))))
theorem rdL_k (ht : txt U n) (hc : cbt U n c) (h_tp : σ.2 b = some (.inl (1, 600, c))) (hbr : b < r ∨ r + 21 ≤ b) {tk0 en0 va0 si : Int32} (h_rd : σ.2 r = some (.inr (.inr (5, [.ref (r + 1), .ref (r + 12), .int (nI (Rf s)), .int (Rp s), .ref b, .int (nI n), .int tk0, .int (nI (tS0 U n (Re s))), .int en0, .int va0, .ref (r + 20), .int si])))) {nu : Nat → Int32} (h_nu : σ.2 (r + 20) = some (.inl (0, 4, nu))) (hcs : csc U n (Re s) tk0 en0 va0) (hok : Rok U n s) (hw : Rw s = false) (hR : rdst Γ) (hS : isS σ (r + 1) S) (hP : isP σ (r + 12) P) (hn16 : S.1 ≤ 16) (hn5 : S.2.1 ≤ 5) (h6 : P.1 ≤ 6) (hwt : wtx Γ 1 31 (fun k => wdP.getD k 0)) {k wi : Nat} (hwi : wi < 6) (hkw : 15 + wi = k) (hk3 : tK U n (Re s) = 3) (hW : tW U n (Re s) = wnP wi) (hkk : 15 ≤ k ∧ k < 20) : RetX Γ m_Reader_readLine [.ref r, .int 0] σ r (r + 21) (some (.int (if Rw (rel U n (lpX U n k P s)) = true then 0 else 1))) (fun τ => ∃ (fa pl tk0 st0 en0 va0 si : Int32) (nu1 : Nat → Int32) (P1 : Pln), τ.2 r = some (.inr (.inr (5, [.ref (r + 1), .ref (r + 12), .int fa, .int pl, .ref b, .int (nI n), .int tk0, .int st0, .int en0, .int va0, .ref (r + 20), .int si]))) ∧ τ.2 (r + 20) = some (.inl (0, 4, nu1)) ∧ isS τ (r + 1) S ∧ isP τ (r + 12) P1 ∧ (Rw (rel U n (lpX U n k P s)) = true → st0 = nI (tS0 U n (Re (rel U n (lpX U n k P s))))) ∧ (Rw (rel U n (lpX U n k P s)) = false → fa = nI (Rf (rel U n (lpX U n k P s))) ∧ pl = Rp (rel U n (lpX U n k P s)) ∧ en0 = nI (Re (rel U n (lpX U n k P s))) ∧ P1 = if Rf (rel U n (lpX U n k P s)) = 0 then LnP k (lpN U n k P s) P else P)) := by
  have hn6 := ht.1
  have h600 := tS0_le ht hok.1
  obtain ⟨⟨qhN, hNU1, hNU2⟩, -, -⟩ := id hR
  have hK0 : ¬ tK U n (Re s) = 0 := by omega
  have hNU4 := NU_le k
  have hokS : Rok U n (lpS U n k P s) := lstP_ok (lw1_ok ht hok hK0 hw) (tE_st ht hok.1 hK0)
  have hReS : Re (lpS U n k P s) = tE U n (Re s) := by
    unfold lpS lstP
    split
    · exact rnt_e
    · split
      · exact rnt_e
      · rfl
  have hwS2 : Rw (lpS U n k P s) = false := by
    unfold lpS lstP
    split
    · exact rnt_w
    · split
      · exact rnt_w
      · rfl
  have hLS0 : Rf (lpS U n k P s) = 0 → P.1 < 6 := fun f => by
    unfold lpS lstP at f
    split at f
    · exact absurd f (rnt_f0 (by decide))
    · split at f
      · exact absurd f (rnt_f0 (by decide))
      · omega
  unfold RetX
  generalize hQ : ((fun (r0 : Option Value) (τ : ex_S) => r0 = some (.int (if Rw (rel U n (lpX U n k P s)) = true then 0 else 1)) ∧ frm σ τ r (r + 21) ∧ (fun τ : ex_S => ∃ (fa pl tk0 st0 en0 va0 si : Int32) (nu1 : Nat → Int32) (P1 : Pln), τ.2 r = some (.inr (.inr (5, [.ref (r + 1), .ref (r + 12), .int fa, .int pl, .ref b, .int (nI n), .int tk0, .int st0, .int en0, .int va0, .ref (r + 20), .int si]))) ∧ τ.2 (r + 20) = some (.inl (0, 4, nu1)) ∧ isS τ (r + 1) S ∧ isP τ (r + 12) P1 ∧ (Rw (rel U n (lpX U n k P s)) = true → st0 = nI (tS0 U n (Re (rel U n (lpX U n k P s))))) ∧ (Rw (rel U n (lpX U n k P s)) = false → fa = nI (Rf (rel U n (lpX U n k P s))) ∧ pl = Rp (rel U n (lpX U n k P s)) ∧ en0 = nI (Re (rel U n (lpX U n k P s))) ∧ P1 = if Rf (rel U n (lpX U n k P s)) = 0 then LnP k (lpN U n k P s) P else P)) τ)) = Q
  refine Ret.start pm_118 rfl ?_
  have fr : frm σ σ r (r + 21) := frm.rf
  refine Ev.aload_n rfl rfl ?_
  refine Ev.getf rfl rfl h_rd rfl ?_
  refine Ev.iconst (v := 1) rfl (by decide) ?_
  refine Ev.jne (tgt := 26) rfl (by decide) (fun c5 => absurd hk3 (csc_nw hcs c5)) (fun c5 => ?_)
  obtain ⟨hlt, hen, hEL, hKW⟩ := csc_w hcs c5
  subst hen
  refine Ev.aload_n rfl rfl ?_
  refine Ev.iload_n rfl rfl ?_
  refine Ev.zeq (tgt := 18) rfl (by decide) (fun c10 => ?_) (fun c10 => absurd (by decide) c10)
  refine Ev.ldcS (j := 1) rfl rfl rfl ?_
  obtain ⟨wv1, wv0⟩ := wrd_y (i := wi) ht hok.1 hwt wdP_1 wdP_2 wnP_r wnP_i hwi hW
  obtain ⟨hl1, hl2, hl3, -⟩ := tL_sp ht hok.1
  refine Ev.cV1 rfl rfl h_rd rfl rfl (by decide) ⟨(Nat.le_refl _), (Nat.le_refl _)⟩ (wordIn_ok ht hc h_tp hwt hl1 hl2 hl3 h_rd wv1 wv0) ?_
  refine Ev.goto (tgt := 27) rfl (by decide) ?_
  refine Ev.istore_n rfl rfl rfl ?_
  refine Ev.iload_n rfl rfl ?_
  refine Ev.zne (tgt := 37) rfl (by decide) (fun c29 => absurd (by decide) c29) (fun c29 => ?_)
  refine Ev.iload_n rfl rfl ?_
  refine Ev.iconst (v := (-1)) rfl (by decide) ?_
  refine Ev.jne (tgt := 41) rfl (by decide) (fun c34 => ?_) (fun c34 => absurd c34 (nI_m1 (by omega)))
  refine Ev.bipush (v := 15) rfl (by decide) ?_
  refine Ev.iload_n rfl rfl ?_
  refine Ev.iadd rfl ?_
  rw [show (15 : Int32) + nI wi = nI k from (nq_add (a := 15) (b := wi) rfl rfl).trans (congrArg nI hkw)]
  refine Ev.istore_n rfl rfl rfl ?_
  refine Ev.iload_n rfl rfl ?_
  refine Ev.zlt (tgt := 58) rfl (by decide) (fun c47 => absurd c47 (nI_pos (by omega))) (fun c47 => ?_)
  refine Ev.iload_n rfl rfl ?_
  refine Ev.gets (g := 1) rfl rfl ?_
  rw [hNU1]
  refine Ev.alenS rfl hNU2 rfl ?_
  refine Ev.jlt (tgt := 60) rfl (by decide) (fun c55 => ?_) (fun c55 => absurd (nI_lt (a := k) (b := 21) (by omega) (by decide)) c55)
  refine Ev.aload_n rfl rfl ?_
  refine Ev.iload_n rfl rfl ?_
  refine Ev.xV1u rfl rfl h_rd rfl rfl (by decide) ⟨(Nat.le_refl _), (Nat.le_refl _)⟩ (chkW_k (s := lw1 U n s) h_rd hS hP hn16 hn5 h6 hok.2.1 hkk) (fun τ500 f9 h_rd => ?_)
  have h_nu := frm.cell f9 h_nu (by omega)
  have h_tp := frm.cell f9 h_tp (by omega)
  have hS := hS.frm f9 (by omega)
  have hP := hP.frm f9 (by omega)
  have fr := fr.step f9 (by omega) (by omega)
  obtain ⟨s2, hs2⟩ : ∃ q, q = lpS U n k P s := ⟨_, rfl⟩
  have h_rd : τ500.2 r = some (.inr (.inr (5, [(.ref (r + 1)), (.ref (r + 12)), (.int (nI (Rf s2))), (.int (Rp s2)), (.ref b), (.int (nI n)), (.int tk0), (.int (nI (tS0 U n (Re s)))), (.int (nI (tL U n (Re s)))), (.int va0), (.ref (r + 20)), (.int si)]))) := by
    rw [hs2]
    exact h_rd
  have hok2 : Rok U n s2 := by rw [hs2]; exact hokS
  have hw2 : Rw s2 = false := by rw [hs2]; exact hwS2
  have hRe : tL U n (Re s) = Re s2 := by rw [hs2, hReS]; exact hEL.symm
  rw [hRe] at h_rd
  refine Ev.aload_n rfl rfl ?_
  refine Ev.iconst (v := 0) rfl (by decide) ?_
  refine Ev.putE rfl rfl h_rd rfl rfl rfl (Nat.le_of_ble_eq_true rfl) (fun τ1 f1 h_rd => ?_)
  replace h_rd : τ1.2 r = some (.inr (.inr (5, [(.ref (r + 1)), (.ref (r + 12)), (.int (nI (Rf s2))), (.int (Rp s2)), (.ref b), (.int (nI n)), (.int tk0), (.int (nI (tS0 U n (Re s)))), (.int (nI (Re s2))), (.int va0), (.ref (r + 20)), (.int (0 : Int32))]))) := h_rd
  have h_nu := frm.cell f1 h_nu (by omega)
  have h_tp := frm.cell f1 h_tp (by omega)
  have hS := hS.frm f1 (by omega)
  have hP := hP.frm f1 (by omega)
  have fr := fr.step f1 (by omega) (by omega)
  refine Ev.iload_n rfl rfl ?_
  refine Ev.bipush (v := 20) rfl (by decide) ?_
  refine Ev.jne (tgt := 82) rfl (by decide) (fun c73 => ?_) (fun c73 => absurd (nI_injL (b := 20) (by omega) (by decide) c73) (by omega))
  refine Ev.gets (g := 1) rfl rfl ?_
  rw [hNU1]
  refine Ev.iload_n rfl rfl ?_
  refine Ev.ialdSN (k := k) rfl hNU2 rfl ⟨(by omega), by decide⟩ ?_
  refine Ev.istore rfl rfl rfl ?_
  refine Ev.iconst (v := 0) rfl (by decide) ?_
  refine Ev.istore rfl rfl rfl ?_
  refine Ev.aload_n rfl rfl ?_
  refine Ev.xV0u rfl rfl h_rd rfl rfl (by decide) ⟨(Nat.le_refl _), (Nat.le_refl _)⟩ (scan_ok ht hc h_tp (by omega) h_rd hok2.1) (fun τ511 f9 q9 => ?_)
  obtain ⟨tk9, en9, va9, h_rd, hcs9⟩ := q9
  have h_nu := frm.cell f9 h_nu (by omega)
  have h_tp := frm.cell f9 h_tp (by omega)
  have hS := hS.frm f9 (by omega)
  have hP := hP.frm f9 (by omega)
  have fr := fr.step f9 (by omega) (by omega)
  have hl96 : ∀ (m96 : Nat) (j : Nat) (tk1 : Int32) (en1 : Int32) (va1 : Int32) (si1 : Int32) (nu1 : (Nat → Int32)), (j ≤ (NUl.getD k 0) ∧ csc U n (Re (chn U n k 0 s2 j)) tk1 en1 va1 ∧ Rw (chn U n k 0 s2 j) = false ∧ (∀ i, i < j → tK U n (Re (chn U n k 0 s2 i)) = 1) ∧ (∀ i, i < j → nu1 i = nI (tV U n (Re (chn U n k 0 s2 i))))) → (5 - j) < m96 → ∀ τ96 : ex_S, frm σ τ96 r (r + 21) → τ96.2 r = some (.inr (.inr (5, [(.ref (r + 1)), (.ref (r + 12)), (.int (nI (Rf (chn U n k 0 s2 j)))), (.int (Rp (chn U n k 0 s2 j))), (.ref b), (.int (nI n)), (.int tk1), (.int (nI (tS0 U n (Re (chn U n k 0 s2 j))))), (.int en1), (.int va1), (.ref (r + 20)), (.int si1)]))) → τ96.2 (r + 20) = some (.inl (0, 4, nu1)) → τ96.2 b = some (.inl (1, 600, c)) → isS τ96 (r + 1) S → isP τ96 (r + 12) P → Ev Γ 0 0 m_Reader_readLine 0 0 96 [some (.ref r), none, none, some (.int (nI k)), some (.int (nI (NUl.getD k 0))), some (.int (nI j))] [] τ96 Q := by
    intro m96
    induction m96 with
    | zero => intro j tk1 en1 va1 si1 nu1 _ hm; exact absurd hm (Nat.not_lt_zero _)
    | succ m96 ih96 =>
      intro j tk1 en1 va1 si1 nu1 hJ96 hm96
      intro τ96 fr h_rd h_nu h_tp hS hP
      have hNU4 := NU_le k
      obtain ⟨hjm, hcs, hwj, htk, hnu⟩ := hJ96
      refine Ev.iload rfl rfl ?_
      refine Ev.iload rfl rfl ?_
      refine Ev.jge (tgt := 138) rfl (by decide) (fun c100 => ?_) (fun c100 => ?_)
      · skip
        have hjm2 : j = NUl.getD k 0 := Nat.le_antisymm hjm (Nat.le_of_not_lt (fun h => c100 (nI_lt h (by omega))))
        refine Ev.iload rfl rfl ?_
        refine Ev.gets (g := 1) rfl rfl ?_
        rw [hNU1]
        refine Ev.iload_n rfl rfl ?_
        refine Ev.ialdSN (k := k) rfl hNU2 rfl ⟨(by omega), by decide⟩ ?_
        refine Ev.jlt (tgt := 156) rfl (by decide) (fun c145 => absurd c145 (nI_nlt (by omega) (by omega))) (fun c145 => ?_)
        refine Ev.aload_n rfl rfl ?_
        refine Ev.getf rfl rfl h_rd rfl ?_
        refine Ev.iconst (v := 3) rfl (by decide) ?_
        refine Ev.jeq (tgt := 158) rfl (by decide) (fun c153 => ?_) (fun c153 => ?_)
        · skip
          refine Ev.aload_n rfl rfl ?_
          refine Ev.getf rfl rfl h_rd rfl ?_
          refine Ev.zne (tgt := 170) rfl (by decide) (fun c162 => ?_) (fun c162 => ?_)
          · skip
            refine Ev.iconst (v := 1) rfl (by decide) ?_
            refine Ev.iret (ty := .boolean) rfl rfl rfl (Nat.le_refl _) (Nat.le_refl _) ?_
            have hX : (lpX U n k P s) = (chn U n k 0 s2 j) := by
              unfold lpX
              rw [← hs2]
              rw [hjm2]
            obtain ⟨hK2, hE2⟩ := csc_3 hcs c153
            have hR4 : rel U n (lpX U n k P s) = (false, tE U n (Re (chn U n k 0 s2 j)), Rf (chn U n k 0 s2 j), Rp (chn U n k 0 s2 j)) := by
              rw [hX]
              exact rel_y hwj hK2
            have hf3 : ¬ Rf (chn U n k 0 s2 j) = 0 := fun h => c162 (congrArg nI h)
            rw [← hQ, hR4]
            refine ⟨rfl, fr, _, _, _, _, _, _, _, _, _, h_rd, h_nu, hS, hP, fun h => (nomatch h), fun _ => ⟨rfl, rfl, hE2, (if_neg hf3).symm⟩⟩
          · skip
            refine Ev.aload_n rfl rfl ?_
            refine Ev.iload_n rfl rfl ?_
            have hf3 : Rf (chn U n k 0 s2 j) = 0 := nI_injL (b := 0) (by have := (chn_ok (k := k) (L := 0) ht hok2 j).2.1; omega) (by decide) c162
            obtain ⟨_, hf2, hgd⟩ := chn_good j hwj hf3
            have hLS := hLS0 (by rw [← hs2]; exact hf2)
            have hNN : ∀ i, i < NUl.getD k 0 → nu1 i = nI (lpN U n k P s i) := fun i hi => by
              have := hnu i (by omega)
              rw [this]
              unfold lpN nus
              rw [← hs2]
            refine Ev.xV1u rfl rfl h_rd rfl rfl (by decide) ⟨(Nat.le_refl _), (Nat.le_refl _)⟩ (tell_p h_rd h_nu hP hLS hkk hNN) (fun τ560 f9 q9 => ?_)
            have hS := hS.frm f9 (by omega)
            have h_rd := frm.cell f9 h_rd (by omega)
            have h_nu := frm.cell f9 h_nu (by omega)
            have fr := fr.step f9 (by omega) (by omega)
            refine Ev.iconst (v := 1) rfl (by decide) ?_
            refine Ev.iret (ty := .boolean) rfl rfl rfl (Nat.le_refl _) (Nat.le_refl _) ?_
            have hX : (lpX U n k P s) = (chn U n k 0 s2 j) := by
              unfold lpX
              rw [← hs2]
              rw [hjm2]
            obtain ⟨hK2, hE2⟩ := csc_3 hcs c153
            have hR4 : rel U n (lpX U n k P s) = (false, tE U n (Re (chn U n k 0 s2 j)), Rf (chn U n k 0 s2 j), Rp (chn U n k 0 s2 j)) := by
              rw [hX]
              exact rel_y hwj hK2
            rw [← hQ, hR4]
            refine ⟨rfl, fr, _, _, _, _, _, _, _, _, _, h_rd, h_nu, hS, q9, fun h => (nomatch h), fun _ => ⟨rfl, rfl, hE2, (if_pos hf3).symm⟩⟩
        · skip
          refine Ev.iconst (v := 0) rfl (by decide) ?_
          refine Ev.iret (ty := .boolean) rfl rfl rfl (Nat.le_refl _) (Nat.le_refl _) ?_
          have hX : (lpX U n k P s) = (chn U n k 0 s2 j) := by
            unfold lpX
            rw [← hs2]
            rw [hjm2]
          have hR4 : rel U n (lpX U n k P s) = (true, Re (chn U n k 0 s2 j), Rf (chn U n k 0 s2 j), Rp (chn U n k 0 s2 j)) := by
            rw [hX]
            exact rel_n (Or.inr (csc_n3 hcs c153))
          rw [← hQ, hR4]
          refine ⟨rfl, fr, _, _, _, _, _, _, _, _, _, h_rd, h_nu, hS, hP, fun _ => ?_, fun h => (nomatch h)⟩
          rfl
      · skip
        refine Ev.aload_n rfl rfl ?_
        refine Ev.getf rfl rfl h_rd rfl ?_
        refine Ev.iconst (v := 2) rfl (by decide) ?_
        refine Ev.jne (tgt := 138) rfl (by decide) (fun c108 => ?_) (fun c108 => ?_)
        · skip
          have hjm : j < NUl.getD k 0 := (nI_ltI (by omega) (by omega)).mp c100
          have hnk := csc_n2 hcs c108
          refine Ev.iload rfl rfl ?_
          refine Ev.gets (g := 1) rfl rfl ?_
          rw [hNU1]
          refine Ev.iload_n rfl rfl ?_
          refine Ev.ialdSN (k := k) rfl hNU2 rfl ⟨(by omega), by decide⟩ ?_
          refine Ev.jlt (tgt := 156) rfl (by decide) (fun c145 => ?_) (fun c145 => absurd (nI_lt hjm (by omega)) c145)
          refine Ev.iconst (v := 0) rfl (by decide) ?_
          refine Ev.iret (ty := .boolean) rfl rfl rfl (Nat.le_refl _) (Nat.le_refl _) ?_
          have hX : (lpX U n k P s) = (true, Re (chn U n k 0 s2 j), Rf (chn U n k 0 s2 j), Rp (chn U n k 0 s2 j)) := by
            unfold lpX
            rw [← hs2]
            have := chn_stuck hnk (NUl.getD k 0 - (j + 1))
            rwa [show j + 1 + (NUl.getD k 0 - (j + 1)) = NUl.getD k 0 by omega] at this
          have hR4 : rel U n (lpX U n k P s) = (true, Re (chn U n k 0 s2 j), Rf (chn U n k 0 s2 j), Rp (chn U n k 0 s2 j)) := by
            rw [hX]
            exact rel_n (Or.inl rfl)
          rw [← hQ, hR4]
          refine ⟨rfl, fr, _, _, _, _, _, _, _, _, _, h_rd, h_nu, hS, hP, fun _ => ?_, fun h => (nomatch h)⟩
          rfl
        · skip
          refine Ev.aload_n rfl rfl ?_
          refine Ev.iload_n rfl rfl ?_
          refine Ev.iload_n rfl rfl ?_
          refine Ev.bipush (v := 20) rfl (by decide) ?_
          refine Ev.jne (tgt := 123) rfl (by decide) (fun c116 => ?_) (fun c116 => absurd (nI_injL (b := 20) (by omega) (by decide) c116) (by omega))
          refine Ev.iload rfl rfl ?_
          have hjl : j < NUl.getD k 0 := (nI_ltI (by omega) (by omega)).mp c100
          obtain ⟨hk1, hva, hen1⟩ := csc_2 hcs c108
          have hokj : Rok U n (chn U n k 0 s2 j) := chn_ok ht hok2 j
          subst hva
          subst hen1
          have hv0 : tV U n (Re s2) ≤ 999 := by
            by_cases e : j = 0
            · subst e
              exact tV_le ht hok2.1 hk1
            · exact tV_le ht hok2.1 (htk 0 (by omega))
          have hn0 : j = 0 ∨ nu1 0 = nI (tV U n (Re s2)) := by
            by_cases e : j = 0
            · exact Or.inl e
            · exact Or.inr (hnu 0 (by omega))
          have hkj : k = 1 ∨ k = 2 ∨ k = 7 → j < 2 := fun h => by omega
          refine Ev.xV2u rfl rfl h_rd rfl rfl (by decide) ⟨(Nat.le_refl _), (Nat.le_refl _)⟩ (tkN_ok (k := k) (j := j) (v := tV U n (Re (chn U n k 0 s2 j))) (n0 := tV U n (Re s2)) (S := S) h_rd h_nu hR hS hn16 hokj.2.1 (tV_le ht hokj.1 hk1) hv0 (by omega) (by omega) hn0 hkj) (fun τ540 f9 q9 => ?_)
          obtain ⟨h_rd, h_nu, kp9⟩ := q9
          have hS : isS τ540 (r + 1) S := hS.of (fun q h1 h2 => kp9 q (by omega) (by omega))
          have hP : isP τ540 (r + 12) P := hP.of (fun q h1 h2 => kp9 q (by omega) (by omega))
          have h_tp := frm.cell f9 h_tp (by omega)
          have fr := fr.step f9 (by omega) (by omega)
          obtain ⟨t1, t2, t3, t4⟩ := tkn_st (L := S.1) (k := k) (j := j) (n0 := tV U n (Re s2)) (v := tV U n (Re (chn U n k 0 s2 j))) hwj hk1 rfl
          have hgL : gds k j (tV U n (Re s2)) S.1 (tV U n (Re (chn U n k 0 s2 j))) = gds k j (tV U n (Re s2)) 0 (tV U n (Re (chn U n k 0 s2 j))) := by
            unfold gds
            rw [if_neg (by omega), if_neg (by omega), if_neg (by omega), if_neg (by omega), if_neg (by omega)]
          rw [hgL] at t1 t2 t3 t4
          have t1 : _ = Rf (chn U n k 0 s2 (j + 1)) := t1
          have t2 : _ = Rp (chn U n k 0 s2 (j + 1)) := t2
          have t3 : Re (chn U n k 0 s2 (j + 1)) = tE U n (Re (chn U n k 0 s2 j)) := t3
          have t4 : Rw (chn U n k 0 s2 (j + 1)) = false := t4
          rw [t1, t2, ← t3] at h_rd
          refine Ev.iinc (d := 1) rfl rfl rfl (by decide) rfl ?_
          refine Ev.aload_n rfl rfl ?_
          refine Ev.xV0u rfl rfl h_rd rfl rfl (by decide) ⟨(Nat.le_refl _), (Nat.le_refl _)⟩ (scan_ok ht hc h_tp (by omega) h_rd (chn_ok ht hok2 (j + 1)).1) (fun τ512 f9 q9 => ?_)
          obtain ⟨tk9, en9, va9, h_rd, hcs9⟩ := q9
          have h_nu := frm.cell f9 h_nu (by omega)
          have h_tp := frm.cell f9 h_tp (by omega)
          have hS := hS.frm f9 (by omega)
          have hP := hP.frm f9 (by omega)
          have fr := fr.step f9 (by omega) (by omega)
          refine Ev.goto (tgt := 96) rfl (by decide) ?_
          exact (ih96 (j + 1) tk9 en9 va9 (si1 ||| (1 : Int32) <<< ((nI (tV U n (Re (chn U n k 0 s2 j))) &&& 15) &&& 31)) (upd nu1 j (nI (tV U n (Re (chn U n k 0 s2 j))))) (⟨hjl, hcs9, t4, fun i hi => by
            by_cases e : i = j
            · subst e
              exact hk1
            · exact htk i (by omega), fun i hi => by
            by_cases e : i = j
            · subst e
              exact pk_us
            · exact (pk_un e).trans (hnu i (by omega))⟩) (by omega) τ512 fr h_rd h_nu h_tp hS hP).fg (gs rfl (gn (gn (gs rfl (gs rfl (gs (congrArg Value.int (nq_add (a := j) (b := 1) rfl (rfl : (1 : Int32) = nI 1)).symm) gz))))))
  exact (hl96 _ 0 tk9 en9 va9 (0 : Int32) nu (⟨Nat.zero_le _, hcs9, hw2, fun i h => absurd h (Nat.not_lt_zero _), fun i h => absurd h (Nat.not_lt_zero _)⟩) (Nat.lt_succ_self _) τ511 fr h_rd h_nu h_tp hS hP).fg (gs rfl (gn (gn (gs rfl (gs rfl (gs (congrArg Value.int (rfl : (0 : Int32) = nI 0).symm) gz))))))
theorem rdL_q (ht : txt U n) (hc : cbt U n c) (h_tp : σ.2 b = some (.inl (1, 600, c))) (hbr : b < r ∨ r + 21 ≤ b) {tk0 en0 va0 si : Int32} (h_rd : σ.2 r = some (.inr (.inr (5, [.ref (r + 1), .ref (r + 12), .int (nI (Rf s)), .int (Rp s), .ref b, .int (nI n), .int tk0, .int (nI (tS0 U n (Re s))), .int en0, .int va0, .ref (r + 20), .int si])))) {nu : Nat → Int32} (h_nu : σ.2 (r + 20) = some (.inl (0, 4, nu))) (hcs : csc U n (Re s) tk0 en0 va0) (hok : Rok U n s) (hw : Rw s = false) (hR : rdst Γ) (hS : isS σ (r + 1) S) (hP : isP σ (r + 12) P) (hn16 : S.1 ≤ 16) (hn5 : S.2.1 ≤ 5) (h6 : P.1 ≤ 6) (hwt : wtx Γ 1 31 (fun k => wdP.getD k 0)) {wi : Nat} (hwi : wi < 6) (hkw : 15 + wi = 20) (hk3 : tK U n (Re s) = 3) (hW : tW U n (Re s) = wnP wi) : RetX Γ m_Reader_readLine [.ref r, .int 0] σ r (r + 21) (some (.int (if Rw (rel U n (chs U n (lpS U n 20 P s) (sitC U n (lpS U n 20 P s)))) = true then 0 else 1))) (fun τ => ∃ (fa pl tk0 st0 en0 va0 si : Int32) (nu1 : Nat → Int32) (P1 : Pln), τ.2 r = some (.inr (.inr (5, [.ref (r + 1), .ref (r + 12), .int fa, .int pl, .ref b, .int (nI n), .int tk0, .int st0, .int en0, .int va0, .ref (r + 20), .int si]))) ∧ τ.2 (r + 20) = some (.inl (0, 4, nu1)) ∧ isS τ (r + 1) S ∧ isP τ (r + 12) P1 ∧ (Rw (rel U n (chs U n (lpS U n 20 P s) (sitC U n (lpS U n 20 P s)))) = true → st0 = nI (tS0 U n (Re (rel U n (chs U n (lpS U n 20 P s) (sitC U n (lpS U n 20 P s))))))) ∧ (Rw (rel U n (chs U n (lpS U n 20 P s) (sitC U n (lpS U n 20 P s)))) = false → fa = nI (Rf (rel U n (chs U n (lpS U n 20 P s) (sitC U n (lpS U n 20 P s))))) ∧ pl = Rp (rel U n (chs U n (lpS U n 20 P s) (sitC U n (lpS U n 20 P s)))) ∧ en0 = nI (Re (rel U n (chs U n (lpS U n 20 P s) (sitC U n (lpS U n 20 P s))))) ∧ P1 = if Rf (rel U n (chs U n (lpS U n 20 P s) (sitC U n (lpS U n 20 P s)))) = 0 then LnQ (msk U n (lpS U n 20 P s) (sitC U n (lpS U n 20 P s))) P else P)) := by
  have hn6 := ht.1
  have h600 := tS0_le ht hok.1
  obtain ⟨⟨qhN, hNU1, hNU2⟩, -, -⟩ := id hR
  have hK0 : ¬ tK U n (Re s) = 0 := by omega
  have hokS : Rok U n (lpS U n 20 P s) := lstP_ok (lw1_ok ht hok hK0 hw) (tE_st ht hok.1 hK0)
  have hReS : Re (lpS U n 20 P s) = tE U n (Re s) := by
    unfold lpS lstP
    split
    · exact rnt_e
    · split
      · exact rnt_e
      · rfl
  have hwS2 : Rw (lpS U n 20 P s) = false := by
    unfold lpS lstP
    split
    · exact rnt_w
    · split
      · exact rnt_w
      · rfl
  have hLS0 : Rf (lpS U n 20 P s) = 0 → 0 < P.1 := fun f => by
    unfold lpS lstP at f
    split at f
    · exact absurd f (rnt_f0 (by decide))
    · split at f
      · exact absurd f (rnt_f0 (by decide))
      · omega
  have hse0 := sitC_ok ht hokS hwS2
  have hS1 : 1 ≤ tE U n (Re s) := by have := tE_lt ht hok.1 hK0; omega
  unfold RetX
  generalize hQ : ((fun (r0 : Option Value) (τ : ex_S) => r0 = some (.int (if Rw (rel U n (chs U n (lpS U n 20 P s) (sitC U n (lpS U n 20 P s)))) = true then 0 else 1)) ∧ frm σ τ r (r + 21) ∧ (fun τ : ex_S => ∃ (fa pl tk0 st0 en0 va0 si : Int32) (nu1 : Nat → Int32) (P1 : Pln), τ.2 r = some (.inr (.inr (5, [.ref (r + 1), .ref (r + 12), .int fa, .int pl, .ref b, .int (nI n), .int tk0, .int st0, .int en0, .int va0, .ref (r + 20), .int si]))) ∧ τ.2 (r + 20) = some (.inl (0, 4, nu1)) ∧ isS τ (r + 1) S ∧ isP τ (r + 12) P1 ∧ (Rw (rel U n (chs U n (lpS U n 20 P s) (sitC U n (lpS U n 20 P s)))) = true → st0 = nI (tS0 U n (Re (rel U n (chs U n (lpS U n 20 P s) (sitC U n (lpS U n 20 P s))))))) ∧ (Rw (rel U n (chs U n (lpS U n 20 P s) (sitC U n (lpS U n 20 P s)))) = false → fa = nI (Rf (rel U n (chs U n (lpS U n 20 P s) (sitC U n (lpS U n 20 P s))))) ∧ pl = Rp (rel U n (chs U n (lpS U n 20 P s) (sitC U n (lpS U n 20 P s)))) ∧ en0 = nI (Re (rel U n (chs U n (lpS U n 20 P s) (sitC U n (lpS U n 20 P s))))) ∧ P1 = if Rf (rel U n (chs U n (lpS U n 20 P s) (sitC U n (lpS U n 20 P s)))) = 0 then LnQ (msk U n (lpS U n 20 P s) (sitC U n (lpS U n 20 P s))) P else P)) τ)) = Q
  refine Ret.start pm_118 rfl ?_
  have fr : frm σ σ r (r + 21) := frm.rf
  refine Ev.aload_n rfl rfl ?_
  refine Ev.getf rfl rfl h_rd rfl ?_
  refine Ev.iconst (v := 1) rfl (by decide) ?_
  refine Ev.jne (tgt := 26) rfl (by decide) (fun c5 => absurd hk3 (csc_nw hcs c5)) (fun c5 => ?_)
  obtain ⟨hlt, hen, hEL, hKW⟩ := csc_w hcs c5
  subst hen
  refine Ev.aload_n rfl rfl ?_
  refine Ev.iload_n rfl rfl ?_
  refine Ev.zeq (tgt := 18) rfl (by decide) (fun c10 => ?_) (fun c10 => absurd (by decide) c10)
  refine Ev.ldcS (j := 1) rfl rfl rfl ?_
  obtain ⟨wv1, wv0⟩ := wrd_y (i := wi) ht hok.1 hwt wdP_1 wdP_2 wnP_r wnP_i hwi hW
  obtain ⟨hl1, hl2, hl3, -⟩ := tL_sp ht hok.1
  refine Ev.cV1 rfl rfl h_rd rfl rfl (by decide) ⟨(Nat.le_refl _), (Nat.le_refl _)⟩ (wordIn_ok ht hc h_tp hwt hl1 hl2 hl3 h_rd wv1 wv0) ?_
  refine Ev.goto (tgt := 27) rfl (by decide) ?_
  refine Ev.istore_n rfl rfl rfl ?_
  refine Ev.iload_n rfl rfl ?_
  refine Ev.zne (tgt := 37) rfl (by decide) (fun c29 => absurd (by decide) c29) (fun c29 => ?_)
  refine Ev.iload_n rfl rfl ?_
  refine Ev.iconst (v := (-1)) rfl (by decide) ?_
  refine Ev.jne (tgt := 41) rfl (by decide) (fun c34 => ?_) (fun c34 => absurd c34 (nI_m1 (by omega)))
  refine Ev.bipush (v := 15) rfl (by decide) ?_
  refine Ev.iload_n rfl rfl ?_
  refine Ev.iadd rfl ?_
  rw [show (15 : Int32) + nI wi = nI 20 from (nq_add (a := 15) (b := wi) rfl rfl).trans (congrArg nI hkw)]
  rw [show nI 20 = (20 : Int32) from rfl]
  refine Ev.istore_n rfl rfl rfl ?_
  refine Ev.iload_n rfl rfl ?_
  refine Ev.zlt (tgt := 58) rfl (by decide) (fun c47 => absurd c47 (by decide)) (fun c47 => ?_)
  refine Ev.iload_n rfl rfl ?_
  refine Ev.gets (g := 1) rfl rfl ?_
  rw [hNU1]
  refine Ev.alenS rfl hNU2 rfl ?_
  refine Ev.jlt (tgt := 60) rfl (by decide) (fun c55 => ?_) (fun c55 => absurd (by decide) c55)
  refine Ev.aload_n rfl rfl ?_
  refine Ev.iload_n rfl rfl ?_
  refine Ev.xV1u rfl rfl h_rd rfl rfl (by decide) ⟨(Nat.le_refl _), (Nat.le_refl _)⟩ (chkW_20 (s := lw1 U n s) h_rd hS hP hn16 hn5 h6 hok.2.1) (fun τ500 f9 h_rd => ?_)
  have h_nu := frm.cell f9 h_nu (by omega)
  have h_tp := frm.cell f9 h_tp (by omega)
  have hS := hS.frm f9 (by omega)
  have hP := hP.frm f9 (by omega)
  have fr := fr.step f9 (by omega) (by omega)
  obtain ⟨s2, hs2⟩ : ∃ q, q = lpS U n 20 P s := ⟨_, rfl⟩
  have h_rd : τ500.2 r = some (.inr (.inr (5, [(.ref (r + 1)), (.ref (r + 12)), (.int (nI (Rf s2))), (.int (Rp s2)), (.ref b), (.int (nI n)), (.int tk0), (.int (nI (tS0 U n (Re s)))), (.int (nI (tL U n (Re s)))), (.int va0), (.ref (r + 20)), (.int si)]))) := by
    rw [hs2]
    exact h_rd
  have hok2 : Rok U n s2 := by rw [hs2]; exact hokS
  have hw2 : Rw s2 = false := by rw [hs2]; exact hwS2
  have hRe : tL U n (Re s) = Re s2 := by rw [hs2, hReS]; exact hEL.symm
  have hse : sitEnd U n s2 (sitC U n (lpS U n 20 P s)) := by rw [hs2]; exact hse0
  rw [hRe] at h_rd
  refine Ev.aload_n rfl rfl ?_
  refine Ev.iconst (v := 0) rfl (by decide) ?_
  refine Ev.putE rfl rfl h_rd rfl rfl rfl (Nat.le_of_ble_eq_true rfl) (fun τ1 f1 h_rd => ?_)
  replace h_rd : τ1.2 r = some (.inr (.inr (5, [(.ref (r + 1)), (.ref (r + 12)), (.int (nI (Rf s2))), (.int (Rp s2)), (.ref b), (.int (nI n)), (.int tk0), (.int (nI (tS0 U n (Re s)))), (.int (nI (Re s2))), (.int va0), (.ref (r + 20)), (.int (0 : Int32))]))) := h_rd
  have h_nu := frm.cell f1 h_nu (by omega)
  have h_tp := frm.cell f1 h_tp (by omega)
  have hS := hS.frm f1 (by omega)
  have hP := hP.frm f1 (by omega)
  have fr := fr.step f1 (by omega) (by omega)
  refine Ev.iload_n rfl rfl ?_
  refine Ev.bipush (v := 20) rfl (by decide) ?_
  refine Ev.jne (tgt := 82) rfl (by decide) (fun c73 => absurd (by decide) c73) (fun c73 => ?_)
  refine Ev.sipush (v := 600) rfl (by decide) ?_
  refine Ev.goto (tgt := 87) rfl (by decide) ?_
  refine Ev.istore rfl rfl rfl ?_
  refine Ev.iconst (v := 0) rfl (by decide) ?_
  refine Ev.istore rfl rfl rfl ?_
  refine Ev.aload_n rfl rfl ?_
  refine Ev.xV0u rfl rfl h_rd rfl rfl (by decide) ⟨(Nat.le_refl _), (Nat.le_refl _)⟩ (scan_ok ht hc h_tp (by omega) h_rd hok2.1) (fun τ511 f9 q9 => ?_)
  obtain ⟨tk9, en9, va9, h_rd, hcs9⟩ := q9
  have h_nu := frm.cell f9 h_nu (by omega)
  have h_tp := frm.cell f9 h_tp (by omega)
  have hS := hS.frm f9 (by omega)
  have hP := hP.frm f9 (by omega)
  have fr := fr.step f9 (by omega) (by omega)
  have hl96 : ∀ (m96 : Nat) (j : Nat) (tk1 : Int32) (en1 : Int32) (va1 : Int32) (si1 : Int32) (nu1 : (Nat → Int32)), (j ≤ 601 ∧ csc U n (Re (chs U n s2 j)) tk1 en1 va1 ∧ Rw (chs U n s2 j) = false ∧ (∀ i, i < j → tK U n (Re (chs U n s2 i)) = 1) ∧ Re s2 + j ≤ Re (chs U n s2 j) ∧ (Rf (chs U n s2 j) = 0 → si1 = msk U n s2 j)) → (602 - j) < m96 → ∀ τ96 : ex_S, frm σ τ96 r (r + 21) → τ96.2 r = some (.inr (.inr (5, [(.ref (r + 1)), (.ref (r + 12)), (.int (nI (Rf (chs U n s2 j)))), (.int (Rp (chs U n s2 j))), (.ref b), (.int (nI n)), (.int tk1), (.int (nI (tS0 U n (Re (chs U n s2 j))))), (.int en1), (.int va1), (.ref (r + 20)), (.int si1)]))) → τ96.2 (r + 20) = some (.inl (0, 4, nu1)) → τ96.2 b = some (.inl (1, 600, c)) → isS τ96 (r + 1) S → isP τ96 (r + 12) P → Ev Γ 0 0 m_Reader_readLine 0 0 96 [some (.ref r), none, none, some (.int (20 : Int32)), some (.int (600 : Int32)), some (.int (nI j))] [] τ96 Q := by
    intro m96
    induction m96 with
    | zero => intro j tk1 en1 va1 si1 nu1 _ hm; exact absurd hm (Nat.not_lt_zero _)
    | succ m96 ih96 =>
      intro j tk1 en1 va1 si1 nu1 hJ96 hm96
      intro τ96 fr h_rd h_nu h_tp hS hP
      obtain ⟨hjm, hcs, hwj, htk, hfar, hsi⟩ := hJ96
      refine Ev.iload rfl rfl ?_
      refine Ev.iload rfl rfl ?_
      refine Ev.jge (tgt := 138) rfl (by decide) (fun c100 => ?_) (fun c100 => ?_)
      · skip
        exfalso
        have := (chs_ok ht hok2 j).1
        have := Nat.le_of_not_lt (fun h => c100 (nI_lt (a := j) (b := 600) h (by decide)))
        omega
      · skip
        refine Ev.aload_n rfl rfl ?_
        refine Ev.getf rfl rfl h_rd rfl ?_
        refine Ev.iconst (v := 2) rfl (by decide) ?_
        refine Ev.jne (tgt := 138) rfl (by decide) (fun c108 => ?_) (fun c108 => ?_)
        · skip
          have hnk := csc_n2 hcs c108
          by_cases hj0 : j = 0
          · skip
            refine Ev.iload rfl rfl ?_
            refine Ev.gets (g := 1) rfl rfl ?_
            rw [hNU1]
            refine Ev.iload_n rfl rfl ?_
            refine Ev.ialdSN (k := 20) rfl hNU2 (rfl : (20 : Int32) = nI 20) ⟨(by omega), by decide⟩ ?_
            refine Ev.jlt (tgt := 156) rfl (by decide) (fun c145 => ?_) (fun c145 => absurd (by rw [hj0]; exact nI_lt (a := 0) (b := 1) (by decide) (by decide)) c145)
            refine Ev.iconst (v := 0) rfl (by decide) ?_
            refine Ev.iret (ty := .boolean) rfl rfl rfl (Nat.le_refl _) (Nat.le_refl _) ?_
            subst hj0
            have hwn : Rw (chs U n s2 1) = true := nst_Rw.mpr (Or.inr hnk)
            have he1 : (sitC U n (lpS U n 20 P s)) = 1 := sit_one hse hwn
            have hX : (chs U n (lpS U n 20 P s) (sitC U n (lpS U n 20 P s))) = (true, Re s2, Rf s2, Rp s2) := by
              rw [he1, ← hs2]
              exact nst_w (Or.inr hnk)
            have hR4 : rel U n (chs U n (lpS U n 20 P s) (sitC U n (lpS U n 20 P s))) = (true, Re (chs U n s2 0), Rf (chs U n s2 0), Rp (chs U n s2 0)) := by
              rw [hX]
              exact rel_n (Or.inl rfl)
            rw [← hQ, hR4]
            refine ⟨rfl, fr, _, _, _, _, _, _, _, _, _, h_rd, h_nu, hS, hP, fun _ => ?_, fun h => (nomatch h)⟩
            rfl
          · skip
            have hjm : (sitC U n (lpS U n 20 P s)) = j := sit_uniq hse hw2 (by omega) htk hnk
            refine Ev.iload rfl rfl ?_
            refine Ev.gets (g := 1) rfl rfl ?_
            rw [hNU1]
            refine Ev.iload_n rfl rfl ?_
            refine Ev.ialdSN (k := 20) rfl hNU2 (rfl : (20 : Int32) = nI 20) ⟨(by omega), by decide⟩ ?_
            refine Ev.jlt (tgt := 156) rfl (by decide) (fun c145 => absurd c145 (nI_nlt (a := j) (b := 1) (by omega) (by omega))) (fun c145 => ?_)
            refine Ev.aload_n rfl rfl ?_
            refine Ev.getf rfl rfl h_rd rfl ?_
            refine Ev.iconst (v := 3) rfl (by decide) ?_
            refine Ev.jeq (tgt := 158) rfl (by decide) (fun c153 => ?_) (fun c153 => ?_)
            · skip
              refine Ev.aload_n rfl rfl ?_
              refine Ev.getf rfl rfl h_rd rfl ?_
              refine Ev.zne (tgt := 170) rfl (by decide) (fun c162 => ?_) (fun c162 => ?_)
              · skip
                refine Ev.iconst (v := 1) rfl (by decide) ?_
                refine Ev.iret (ty := .boolean) rfl rfl rfl (Nat.le_refl _) (Nat.le_refl _) ?_
                have hX : (chs U n (lpS U n 20 P s) (sitC U n (lpS U n 20 P s))) = (chs U n s2 j) := by
                  rw [hjm, ← hs2]
                obtain ⟨hK2, hE2⟩ := csc_3 hcs c153
                have hR4 : rel U n (chs U n (lpS U n 20 P s) (sitC U n (lpS U n 20 P s))) = (false, tE U n (Re (chs U n s2 j)), Rf (chs U n s2 j), Rp (chs U n s2 j)) := by
                  rw [hX]
                  exact rel_y hwj hK2
                have hf3 : ¬ Rf (chs U n s2 j) = 0 := fun h => c162 (congrArg nI h)
                rw [← hQ, hR4]
                refine ⟨rfl, fr, _, _, _, _, _, _, _, _, _, h_rd, h_nu, hS, hP, fun h => (nomatch h), fun _ => ⟨rfl, rfl, hE2, (if_neg hf3).symm⟩⟩
              · skip
                refine Ev.aload_n rfl rfl ?_
                refine Ev.iload_n rfl rfl ?_
                have hf3 : Rf (chs U n s2 j) = 0 := nI_injL (b := 0) (by have := (chs_ok ht hok2 j).2.1; omega) (by decide) c162
                have hf2 := chs_f0 j hwj hf3
                have hLS := hLS0 (by rw [← hs2]; exact hf2)
                refine Ev.xV1u rfl rfl h_rd rfl rfl (by decide) ⟨(Nat.le_refl _), (Nat.le_refl _)⟩ (tell_20 h_rd h_nu hP hLS h6) (fun τ560 f9 q9 => ?_)
                have hS := hS.frm f9 (by omega)
                have h_rd := frm.cell f9 h_rd (by omega)
                have h_nu := frm.cell f9 h_nu (by omega)
                have fr := fr.step f9 (by omega) (by omega)
                refine Ev.iconst (v := 1) rfl (by decide) ?_
                refine Ev.iret (ty := .boolean) rfl rfl rfl (Nat.le_refl _) (Nat.le_refl _) ?_
                have hX : (chs U n (lpS U n 20 P s) (sitC U n (lpS U n 20 P s))) = (chs U n s2 j) := by
                  rw [hjm, ← hs2]
                obtain ⟨hK2, hE2⟩ := csc_3 hcs c153
                have hR4 : rel U n (chs U n (lpS U n 20 P s) (sitC U n (lpS U n 20 P s))) = (false, tE U n (Re (chs U n s2 j)), Rf (chs U n s2 j), Rp (chs U n s2 j)) := by
                  rw [hX]
                  exact rel_y hwj hK2
                have hq9 := q9
                rw [hsi hf3, ← hjm, hs2] at hq9
                rw [← hQ, hR4]
                refine ⟨rfl, fr, _, _, _, _, _, _, _, _, _, h_rd, h_nu, hS, hq9, fun h => (nomatch h), fun _ => ⟨rfl, rfl, hE2, (if_pos hf3).symm⟩⟩
            · skip
              refine Ev.iconst (v := 0) rfl (by decide) ?_
              refine Ev.iret (ty := .boolean) rfl rfl rfl (Nat.le_refl _) (Nat.le_refl _) ?_
              have hX : (chs U n (lpS U n 20 P s) (sitC U n (lpS U n 20 P s))) = (chs U n s2 j) := by
                rw [hjm, ← hs2]
              have hR4 : rel U n (chs U n (lpS U n 20 P s) (sitC U n (lpS U n 20 P s))) = (true, Re (chs U n s2 j), Rf (chs U n s2 j), Rp (chs U n s2 j)) := by
                rw [hX]
                exact rel_n (Or.inr (csc_n3 hcs c153))
              rw [← hQ, hR4]
              refine ⟨rfl, fr, _, _, _, _, _, _, _, _, _, h_rd, h_nu, hS, hP, fun _ => ?_, fun h => (nomatch h)⟩
              rfl
        · skip
          refine Ev.aload_n rfl rfl ?_
          refine Ev.iload_n rfl rfl ?_
          refine Ev.iload_n rfl rfl ?_
          refine Ev.bipush (v := 20) rfl (by decide) ?_
          refine Ev.jne (tgt := 123) rfl (by decide) (fun c116 => absurd (by decide) c116) (fun c116 => ?_)
          refine Ev.iconst (v := 0) rfl (by decide) ?_
          refine Ev.goto (tgt := 125) rfl (by decide) ?_
          have hjl : j < 600 := (nI_ltI (by omega) (by decide)).mp c100
          obtain ⟨hk1, hva, hen1⟩ := csc_2 hcs c108
          have hokj : Rok U n (chs U n s2 j) := chs_ok ht hok2 j
          subst hva
          subst hen1
          refine Ev.xV2u rfl rfl h_rd rfl rfl (by decide) ⟨(Nat.le_refl _), (Nat.le_refl _)⟩ (tkN_ok (k := 20) (j := 0) (v := tV U n (Re (chs U n s2 j))) (n0 := 0) h_rd h_nu hR hS hn16 hokj.2.1 (tV_le ht hokj.1 hk1) (by decide) (by decide) (by decide) (Or.inl rfl) (fun _ => by decide)) (fun τ540 f9 q9 => ?_)
          obtain ⟨h_rd, h_nu, kp9⟩ := q9
          have hS : isS τ540 (r + 1) S := hS.of (fun q h1 h2 => kp9 q (by omega) (by omega))
          have hP : isP τ540 (r + 12) P := hP.of (fun q h1 h2 => kp9 q (by omega) (by omega))
          have h_tp := frm.cell f9 h_tp (by omega)
          have fr := fr.step f9 (by omega) (by omega)
          obtain ⟨t1, t2, t3, t4⟩ := tkn_st (L := S.1) (k := 20) (j := 0) (n0 := 0) (v := tV U n (Re (chs U n s2 j))) (g := (fun v => decide (0 ≤ v) && decide (v ≤ 15)) (tV U n (Re (chs U n s2 j)))) hwj hk1 rfl
          have t1 : _ = Rf (chs U n s2 (j + 1)) := t1
          have t2 : _ = Rp (chs U n s2 (j + 1)) := t2
          have t3 : Re (chs U n s2 (j + 1)) = tE U n (Re (chs U n s2 j)) := t3
          have t4 : Rw (chs U n s2 (j + 1)) = false := t4
          rw [t1, t2, ← t3] at h_rd
          refine Ev.iinc (d := 1) rfl rfl rfl (by decide) rfl ?_
          refine Ev.aload_n rfl rfl ?_
          refine Ev.xV0u rfl rfl h_rd rfl rfl (by decide) ⟨(Nat.le_refl _), (Nat.le_refl _)⟩ (scan_ok ht hc h_tp (by omega) h_rd (chs_ok ht hok2 (j + 1)).1) (fun τ512 f9 q9 => ?_)
          obtain ⟨tk9, en9, va9, h_rd, hcs9⟩ := q9
          have h_nu := frm.cell f9 h_nu (by omega)
          have h_tp := frm.cell f9 h_tp (by omega)
          have hS := hS.frm f9 (by omega)
          have hP := hP.frm f9 (by omega)
          have fr := fr.step f9 (by omega) (by omega)
          refine Ev.goto (tgt := 96) rfl (by decide) ?_
          exact (ih96 (j + 1) tk9 en9 va9 (si1 ||| (1 : Int32) <<< ((nI (tV U n (Re (chs U n s2 j))) &&& 15) &&& 31)) (upd nu1 0 (nI (tV U n (Re (chs U n s2 j))))) (⟨by omega, hcs9, t4, fun i hi => by
            by_cases e : i = j
            · subst e
              exact hk1
            · exact htk i (by omega), by have := tE_lt ht hokj.1 (by omega); have := (tS0_le ht hokj.1).1; omega, msk_up hwj hk1 hsi⟩) (by omega) τ512 fr h_rd h_nu h_tp hS hP).fg (gs rfl (gn (gn (gs rfl (gs rfl (gs (congrArg Value.int (nq_add (a := j) (b := 1) rfl (rfl : (1 : Int32) = nI 1)).symm) gz))))))
  exact (hl96 _ 0 tk9 en9 va9 (0 : Int32) nu (⟨by omega, hcs9, hw2, fun i h => absurd h (Nat.not_lt_zero _), by show Re s2 + 0 ≤ Re s2; omega, fun _ => rfl⟩) (Nat.lt_succ_self _) τ511 fr h_rd h_nu h_tp hS hP).fg (gs rfl (gn (gn (gs rfl (gs rfl (gs (congrArg Value.int (rfl : (0 : Int32) = nI 0).symm) gz))))))
end
end
