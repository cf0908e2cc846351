/-! Texts (class): a fault is noted, a line's word, a line's number. -/
noncomputable section
theorem LO_le : ∀ i, LOl.getD i 0 ≤ 999 := by
  intro i
  by_cases c : i < 84
  · exact (by decide : ∀ i, i < 84 → LOl.getD i 0 ≤ 999) i c
  · rw [List.getD_eq_getElem?_getD, List.getElem?_eq_none (show LOl.length ≤ i from Nat.le_of_not_lt c)]
    decide
theorem HI_le : ∀ i, HIl.getD i 0 ≤ 999 := by
  intro i
  by_cases c : i < 84
  · exact (by decide : ∀ i, i < 84 → HIl.getD i 0 ≤ 999) i c
  · rw [List.getD_eq_getElem?_getD, List.getElem?_eq_none (show HIl.length ≤ i from Nat.le_of_not_lt c)]
    decide
/-- the tables of the class's reader -/
def rdst (Γ : ex_G) : Prop := (∃ q, gV Γ 1 = .ref q ∧ (q, 0, 21, fun j => nI (NUl.getD j 0)) ∈ gA Γ) ∧ (∃ q, gV Γ 2 = .ref q ∧ (q, 0, 84, fun j => nI (LOl.getD j 0)) ∈ gA Γ) ∧ ∃ q, gV Γ 3 = .ref q ∧ (q, 0, 84, fun j => nI (HIl.getD j 0)) ∈ gA Γ
/-- what is noted behind a number -/
def tkn (k j n0 L v : Nat) (s : Rs) (a : Nat) : Rs := if gds k j n0 L v = true then s else rnt s 2 a
section
variable {Γ : ex_G} {σ : ex_S} {x q a p y : Nat} {S : Sch} {T : Tol} {P : Pln} {g A : Nat → Int32}
variable {P : Pln} {n r b a : Nat} {s : Rs}
theorem note_ok {tk0 en0 va0 si : Int32} {k : Nat} (h_rd : σ.2 r = some (.inr (.inr (5, [.ref (r + 1), .ref (r + 12), .int (nI (Rf s)), .int (Rp s), .ref b, .int (nI n), .int tk0, .int (nI a), .int en0, .int va0, .ref (r + 20), .int si])))) (hf4 : Rf s ≤ 4) (hk : k ≤ 4) : RetX Γ m_Reader_note [.ref r, .int (nI k)] σ r (r + 1) none (fun τ => τ.2 r = some (.inr (.inr (5, [.ref (r + 1), .ref (r + 12), .int (nI (Rf (rnt s k a))), .int (Rp (rnt s k a)), .ref b, .int (nI n), .int tk0, .int (nI a), .int en0, .int va0, .ref (r + 20), .int si])))) := by
  unfold RetX
  generalize hQ : ((fun (r0 : Option Value) (τ : ex_S) => r0 = none ∧ frm σ τ r (r + 1) ∧ (fun τ : ex_S => τ.2 r = some (.inr (.inr (5, [.ref (r + 1), .ref (r + 12), .int (nI (Rf (rnt s k a))), .int (Rp (rnt s k a)), .ref b, .int (nI n), .int tk0, .int (nI a), .int en0, .int va0, .ref (r + 20), .int si])))) τ)) = Q
  refine Ret.start pm_119 rfl ?_
  have fr : frm σ σ r (r + 1) := frm.rf
  refine Ev.aload_n rfl rfl ?_
  refine Ev.getf rfl rfl h_rd rfl ?_
  refine Ev.zne (tgt := 20) rfl (by decide) (fun c4 => ?_) (fun c4 => ?_)
  · skip
    refine Ev.ret rfl rfl (Nat.le_refl _) (Nat.le_refl _) ?_
    rw [← hQ]
    refine ⟨rfl, fr, ?_⟩
    have hf0 : ¬ Rf s = 0 := fun h => c4 (congrArg nI h)
    show σ.2 r = some (.inr (.inr (5, [.ref (r + 1), .ref (r + 12), .int (nI (Rf (rnt s k a))), .int (Rp (rnt s k a)), .ref b, .int (nI n), .int tk0, .int (nI a), .int en0, .int va0, .ref (r + 20), .int si])))
    rw [rnt_f hf0]
    exact h_rd
  · skip
    refine Ev.aload_n rfl rfl ?_
    refine Ev.iload_n rfl rfl ?_
    refine Ev.putE rfl rfl h_rd rfl rfl rfl (Nat.le_of_ble_eq_true rfl) (fun τ1 f1 h_rd => ?_)
    replace h_rd : τ1.2 r = some (.inr (.inr (5, [(.ref (r + 1)), (.ref (r + 12)), (.int (nI k)), (.int (Rp s)), (.ref b), (.int (nI n)), (.int tk0), (.int (nI a)), (.int en0), (.int va0), (.ref (r + 20)), (.int si)]))) := h_rd
    have fr := fr.step f1 (by omega) (by omega)
    refine Ev.aload_n rfl rfl ?_
    refine Ev.aload_n rfl rfl ?_
    refine Ev.getf rfl rfl h_rd rfl ?_
    refine Ev.putE rfl rfl h_rd rfl rfl rfl (Nat.le_of_ble_eq_true rfl) (fun τ2 f1 h_rd => ?_)
    replace h_rd : τ2.2 r = some (.inr (.inr (5, [(.ref (r + 1)), (.ref (r + 12)), (.int (nI k)), (.int (nI a)), (.ref b), (.int (nI n)), (.int tk0), (.int (nI a)), (.int en0), (.int va0), (.ref (r + 20)), (.int si)]))) := h_rd
    have fr := fr.step f1 (by omega) (by omega)
    refine Ev.ret rfl rfl (Nat.le_refl _) (Nat.le_refl _) ?_
    rw [← hQ]
    refine ⟨rfl, fr, ?_⟩
    have hf0 : Rf s = 0 := nI_injL (b := 0) (by omega) (by decide) c4
    have e : rnt s k a = (Rw s, Re s, k, nI a) := by
      unfold rnt
      rw [if_pos hf0]
    show τ2.2 r = some (.inr (.inr (5, [.ref (r + 1), .ref (r + 12), .int (nI (Rf (rnt s k a))), .int (Rp (rnt s k a)), .ref b, .int (nI n), .int tk0, .int (nI a), .int en0, .int va0, .ref (r + 20), .int si])))
    rw [e]
    exact h_rd
theorem chkW_0  {tk0 en0 va0 si : Int32} (h_rd : σ.2 r = some (.inr (.inr (5, [.ref (r + 1), .ref (r + 12), .int (nI (Rf s)), .int (Rp s), .ref b, .int (nI n), .int tk0, .int (nI a), .int en0, .int va0, .ref (r + 20), .int si])))) (hS : isS σ (r + 1) S) (hP : isP σ (r + 12) P) (hn16 : S.1 ≤ 16) (hn5 : S.2.1 ≤ 5) (h6 : P.1 ≤ 6) (hf4 : Rf s ≤ 4)  : RetX Γ m_Reader_checkWord [.ref r, .int 0] σ r (r + 1) none (fun τ => τ.2 r = some (.inr (.inr (5, [.ref (r + 1), .ref (r + 12), .int (nI (Rf (lstS 0 S s a))), .int (Rp (lstS 0 S s a)), .ref b, .int (nI n), .int tk0, .int (nI a), .int en0, .int va0, .ref (r + 20), .int si])))) := by
  obtain ⟨h0, h1, h2, h3, h4, h5, h6a, h7, h8, h9, h10⟩ := id hS
  obtain ⟨p0, ⟨fp, p1, p2⟩, p3⟩ := id hP
  unfold RetX
  generalize hQ : ((fun (r0 : Option Value) (τ : ex_S) => r0 = none ∧ frm σ τ r (r + 1) ∧ (fun τ : ex_S => τ.2 r = some (.inr (.inr (5, [.ref (r + 1), .ref (r + 12), .int (nI (Rf (lstS 0 S s a))), .int (Rp (lstS 0 S s a)), .ref b, .int (nI n), .int tk0, .int (nI a), .int en0, .int va0, .ref (r + 20), .int si])))) τ)) = Q
  refine Ret.start pm_120 rfl ?_
  have fr : frm σ σ r (r + 1) := frm.rf
  refine Ev.iload_n rfl rfl ?_
  refine Ev.zne (tgt := 24) rfl (by decide) (fun c1 => absurd (by decide) c1) (fun c1 => ?_)
  refine Ev.aload_n rfl rfl ?_
  refine Ev.getf rfl rfl h_rd rfl ?_
  refine Ev.getf rfl rfl h0 rfl ?_
  refine Ev.bipush (v := 16) rfl (by decide) ?_
  refine Ev.jlt (tgt := 20) rfl (by decide) (fun c13 => ?_) (fun c13 => ?_)
  · skip
    refine Ev.iconst (v := 0) rfl (by decide) ?_
    refine Ev.goto (tgt := 77) rfl (by decide) ?_
    refine Ev.istore_n rfl rfl rfl ?_
    refine Ev.iload_n rfl rfl ?_
    refine Ev.zeq (tgt := 87) rfl (by decide) (fun c79 => ?_) (fun c79 => absurd (by decide) c79)
    refine Ev.iload_n rfl rfl ?_
    refine Ev.bipush (v := 20) rfl (by decide) ?_
    refine Ev.jne (tgt := 108) rfl (by decide) (fun c90 => ?_) (fun c90 => absurd c90 (by decide))
    refine Ev.ret rfl rfl (Nat.le_refl _) (Nat.le_refl _) ?_
    rw [← hQ]
    refine ⟨rfl, fr, ?_⟩
    have hl : S.1 < 16 := (nI_ltI (a := S.1) (b := 16) (by omega) (by decide)).mp c13
    have e : lstS 0 S s a = s := by
      unfold lstS
      exact if_neg (by omega)
    show σ.2 r = some (.inr (.inr (5, [.ref (r + 1), .ref (r + 12), .int (nI (Rf (lstS 0 S s a))), .int (Rp (lstS 0 S s a)), .ref b, .int (nI n), .int tk0, .int (nI a), .int en0, .int va0, .ref (r + 20), .int si])))
    rw [e]
    exact h_rd
  · skip
    refine Ev.iconst (v := 1) rfl (by decide) ?_
    refine Ev.goto (tgt := 77) rfl (by decide) ?_
    refine Ev.istore_n rfl rfl rfl ?_
    refine Ev.iload_n rfl rfl ?_
    refine Ev.zeq (tgt := 87) rfl (by decide) (fun c79 => absurd c79 (by decide)) (fun c79 => ?_)
    refine Ev.aload_n rfl rfl ?_
    refine Ev.iconst (v := 3) rfl (by decide) ?_
    refine Ev.xV1u rfl rfl h_rd rfl rfl (by decide) ⟨(Nat.le_refl _), (Nat.le_refl _)⟩ (note_ok (k := 3) h_rd hf4 (by decide)) (fun τ501 f9 h_rd => ?_)
    have fr := fr.step f9 (by omega) (by omega)
    refine Ev.iload_n rfl rfl ?_
    refine Ev.bipush (v := 20) rfl (by decide) ?_
    refine Ev.jne (tgt := 108) rfl (by decide) (fun c90 => ?_) (fun c90 => absurd c90 (by decide))
    refine Ev.ret rfl rfl (Nat.le_refl _) (Nat.le_refl _) ?_
    rw [← hQ]
    refine ⟨rfl, fr, ?_⟩
    have hl : 16 ≤ S.1 := Nat.le_of_not_lt (fun h => c13 (nI_lt (b := 16) h (by decide)))
    have e : lstS 0 S s a = (rnt s 3 a) := by
      unfold lstS
      exact if_pos (Or.inl ⟨rfl, hl⟩)
    show τ501.2 r = some (.inr (.inr (5, [.ref (r + 1), .ref (r + 12), .int (nI (Rf (lstS 0 S s a))), .int (Rp (lstS 0 S s a)), .ref b, .int (nI n), .int tk0, .int (nI a), .int en0, .int va0, .ref (r + 20), .int si])))
    rw [e]
    exact h_rd
theorem chkW_3  {tk0 en0 va0 si : Int32} (h_rd : σ.2 r = some (.inr (.inr (5, [.ref (r + 1), .ref (r + 12), .int (nI (Rf s)), .int (Rp s), .ref b, .int (nI n), .int tk0, .int (nI a), .int en0, .int va0, .ref (r + 20), .int si])))) (hS : isS σ (r + 1) S) (hP : isP σ (r + 12) P) (hn16 : S.1 ≤ 16) (hn5 : S.2.1 ≤ 5) (h6 : P.1 ≤ 6) (hf4 : Rf s ≤ 4)  : RetX Γ m_Reader_checkWord [.ref r, .int 3] σ r (r + 1) none (fun τ => τ.2 r = some (.inr (.inr (5, [.ref (r + 1), .ref (r + 12), .int (nI (Rf (lstS 3 S s a))), .int (Rp (lstS 3 S s a)), .ref b, .int (nI n), .int tk0, .int (nI a), .int en0, .int va0, .ref (r + 20), .int si])))) := by
  obtain ⟨h0, h1, h2, h3, h4, h5, h6a, h7, h8, h9, h10⟩ := id hS
  obtain ⟨p0, ⟨fp, p1, p2⟩, p3⟩ := id hP
  unfold RetX
  generalize hQ : ((fun (r0 : Option Value) (τ : ex_S) => r0 = none ∧ frm σ τ r (r + 1) ∧ (fun τ : ex_S => τ.2 r = some (.inr (.inr (5, [.ref (r + 1), .ref (r + 12), .int (nI (Rf (lstS 3 S s a))), .int (Rp (lstS 3 S s a)), .ref b, .int (nI n), .int tk0, .int (nI a), .int en0, .int va0, .ref (r + 20), .int si])))) τ)) = Q
  refine Ret.start pm_120 rfl ?_
  have fr : frm σ σ r (r + 1) := frm.rf
  refine Ev.iload_n rfl rfl ?_
  refine Ev.zne (tgt := 24) rfl (by decide) (fun c1 => ?_) (fun c1 => absurd c1 (by decide))
  refine Ev.iload_n rfl rfl ?_
  refine Ev.iconst (v := 3) rfl (by decide) ?_
  refine Ev.jne (tgt := 48) rfl (by decide) (fun c26 => absurd (by decide) c26) (fun c26 => ?_)
  refine Ev.aload_n rfl rfl ?_
  refine Ev.getf rfl rfl h_rd rfl ?_
  refine Ev.getf rfl rfl h0 rfl ?_
  refine Ev.iconst (v := 5) rfl (by decide) ?_
  refine Ev.jlt (tgt := 44) rfl (by decide) (fun c37 => ?_) (fun c37 => ?_)
  · skip
    refine Ev.iconst (v := 0) rfl (by decide) ?_
    refine Ev.goto (tgt := 77) rfl (by decide) ?_
    refine Ev.istore_n rfl rfl rfl ?_
    refine Ev.iload_n rfl rfl ?_
    refine Ev.zeq (tgt := 87) rfl (by decide) (fun c79 => ?_) (fun c79 => absurd (by decide) c79)
    refine Ev.iload_n rfl rfl ?_
    refine Ev.bipush (v := 20) rfl (by decide) ?_
    refine Ev.jne (tgt := 108) rfl (by decide) (fun c90 => ?_) (fun c90 => absurd c90 (by decide))
    refine Ev.ret rfl rfl (Nat.le_refl _) (Nat.le_refl _) ?_
    rw [← hQ]
    refine ⟨rfl, fr, ?_⟩
    have hl : S.2.1 < 5 := (nI_ltI (a := S.2.1) (b := 5) (by omega) (by decide)).mp c37
    have e : lstS 3 S s a = s := by
      unfold lstS
      exact if_neg (by omega)
    show σ.2 r = some (.inr (.inr (5, [.ref (r + 1), .ref (r + 12), .int (nI (Rf (lstS 3 S s a))), .int (Rp (lstS 3 S s a)), .ref b, .int (nI n), .int tk0, .int (nI a), .int en0, .int va0, .ref (r + 20), .int si])))
    rw [e]
    exact h_rd
  · skip
    refine Ev.iconst (v := 1) rfl (by decide) ?_
    refine Ev.goto (tgt := 77) rfl (by decide) ?_
    refine Ev.istore_n rfl rfl rfl ?_
    refine Ev.iload_n rfl rfl ?_
    refine Ev.zeq (tgt := 87) rfl (by decide) (fun c79 => absurd c79 (by decide)) (fun c79 => ?_)
    refine Ev.aload_n rfl rfl ?_
    refine Ev.iconst (v := 3) rfl (by decide) ?_
    refine Ev.xV1u rfl rfl h_rd rfl rfl (by decide) ⟨(Nat.le_refl _), (Nat.le_refl _)⟩ (note_ok (k := 3) h_rd hf4 (by decide)) (fun τ501 f9 h_rd => ?_)
    have fr := fr.step f9 (by omega) (by omega)
    refine Ev.iload_n rfl rfl ?_
    refine Ev.bipush (v := 20) rfl (by decide) ?_
    refine Ev.jne (tgt := 108) rfl (by decide) (fun c90 => ?_) (fun c90 => absurd c90 (by decide))
    refine Ev.ret rfl rfl (Nat.le_refl _) (Nat.le_refl _) ?_
    rw [← hQ]
    refine ⟨rfl, fr, ?_⟩
    have hl : 5 ≤ S.2.1 := Nat.le_of_not_lt (fun h => c37 (nI_lt (b := 5) h (by decide)))
    have e : lstS 3 S s a = (rnt s 3 a) := by
      unfold lstS
      exact if_pos (Or.inr ⟨rfl, hl⟩)
    show τ501.2 r = some (.inr (.inr (5, [.ref (r + 1), .ref (r + 12), .int (nI (Rf (lstS 3 S s a))), .int (Rp (lstS 3 S s a)), .ref b, .int (nI n), .int tk0, .int (nI a), .int en0, .int va0, .ref (r + 20), .int si])))
    rw [e]
    exact h_rd
theorem chkW_k {k : Nat} {tk0 en0 va0 si : Int32} (h_rd : σ.2 r = some (.inr (.inr (5, [.ref (r + 1), .ref (r + 12), .int (nI (Rf s)), .int (Rp s), .ref b, .int (nI n), .int tk0, .int (nI a), .int en0, .int va0, .ref (r + 20), .int si])))) (hS : isS σ (r + 1) S) (hP : isP σ (r + 12) P) (hn16 : S.1 ≤ 16) (hn5 : S.2.1 ≤ 5) (h6 : P.1 ≤ 6) (hf4 : Rf s ≤ 4) (hk : 15 ≤ k ∧ k < 20) : RetX Γ m_Reader_checkWord [.ref r, .int (nI k)] σ r (r + 1) none (fun τ => τ.2 r = some (.inr (.inr (5, [.ref (r + 1), .ref (r + 12), .int (nI (Rf (lstP k P s a))), .int (Rp (lstP k P s a)), .ref b, .int (nI n), .int tk0, .int (nI a), .int en0, .int va0, .ref (r + 20), .int si])))) := by
  obtain ⟨h0, h1, h2, h3, h4, h5, h6a, h7, h8, h9, h10⟩ := id hS
  obtain ⟨p0, ⟨fp, p1, p2⟩, p3⟩ := id hP
  unfold RetX
  generalize hQ : ((fun (r0 : Option Value) (τ : ex_S) => r0 = none ∧ frm σ τ r (r + 1) ∧ (fun τ : ex_S => τ.2 r = some (.inr (.inr (5, [.ref (r + 1), .ref (r + 12), .int (nI (Rf (lstP k P s a))), .int (Rp (lstP k P s a)), .ref b, .int (nI n), .int tk0, .int (nI a), .int en0, .int va0, .ref (r + 20), .int si])))) τ)) = Q
  refine Ret.start pm_120 rfl ?_
  have fr : frm σ σ r (r + 1) := frm.rf
  refine Ev.iload_n rfl rfl ?_
  refine Ev.zne (tgt := 24) rfl (by decide) (fun c1 => ?_) (fun c1 => absurd (nI_injL (b := 0) (by omega) (by decide) c1) (by omega))
  refine Ev.iload_n rfl rfl ?_
  refine Ev.iconst (v := 3) rfl (by decide) ?_
  refine Ev.jne (tgt := 48) rfl (by decide) (fun c26 => ?_) (fun c26 => absurd (nI_injL (b := 3) (by omega) (by decide) c26) (by omega))
  refine Ev.iload_n rfl rfl ?_
  refine Ev.bipush (v := 15) rfl (by decide) ?_
  refine Ev.jlt (tgt := 76) rfl (by decide) (fun c51 => absurd c51 (nI_nlt (a := k) (b := 15) (by omega) (by omega))) (fun c51 => ?_)
  refine Ev.iload_n rfl rfl ?_
  refine Ev.bipush (v := 20) rfl (by decide) ?_
  refine Ev.jge (tgt := 76) rfl (by decide) (fun c57 => absurd (nI_lt (a := k) (b := 20) (by omega) (by decide)) c57) (fun c57 => ?_)
  refine Ev.aload_n rfl rfl ?_
  refine Ev.getf rfl rfl h_rd rfl ?_
  refine Ev.getf rfl rfl p0 rfl ?_
  refine Ev.bipush (v := 6) rfl (by decide) ?_
  refine Ev.jlt (tgt := 76) rfl (by decide) (fun c69 => ?_) (fun c69 => ?_)
  · skip
    refine Ev.iconst (v := 0) rfl (by decide) ?_
    refine Ev.istore_n rfl rfl rfl ?_
    refine Ev.iload_n rfl rfl ?_
    refine Ev.zeq (tgt := 87) rfl (by decide) (fun c79 => ?_) (fun c79 => absurd (by decide) c79)
    refine Ev.iload_n rfl rfl ?_
    refine Ev.bipush (v := 20) rfl (by decide) ?_
    refine Ev.jne (tgt := 108) rfl (by decide) (fun c90 => ?_) (fun c90 => absurd (nI_injL (b := 20) (by omega) (by decide) c90) (by omega))
    refine Ev.ret rfl rfl (Nat.le_refl _) (Nat.le_refl _) ?_
    rw [← hQ]
    refine ⟨rfl, fr, ?_⟩
    have hl : P.1 < 6 := (nI_ltI (a := P.1) (b := 6) (by omega) (by decide)).mp c69
    have e : lstP k P s a = s := by
      unfold lstP
      rw [if_neg (by omega)]
      exact if_neg (by omega)
    show σ.2 r = some (.inr (.inr (5, [.ref (r + 1), .ref (r + 12), .int (nI (Rf (lstP k P s a))), .int (Rp (lstP k P s a)), .ref b, .int (nI n), .int tk0, .int (nI a), .int en0, .int va0, .ref (r + 20), .int si])))
    rw [e]
    exact h_rd
  · skip
    refine Ev.iconst (v := 1) rfl (by decide) ?_
    refine Ev.goto (tgt := 77) rfl (by decide) ?_
    refine Ev.istore_n rfl rfl rfl ?_
    refine Ev.iload_n rfl rfl ?_
    refine Ev.zeq (tgt := 87) rfl (by decide) (fun c79 => absurd c79 (by decide)) (fun c79 => ?_)
    refine Ev.aload_n rfl rfl ?_
    refine Ev.iconst (v := 3) rfl (by decide) ?_
    refine Ev.xV1u rfl rfl h_rd rfl rfl (by decide) ⟨(Nat.le_refl _), (Nat.le_refl _)⟩ (note_ok (k := 3) h_rd hf4 (by decide)) (fun τ501 f9 h_rd => ?_)
    have fr := fr.step f9 (by omega) (by omega)
    refine Ev.iload_n rfl rfl ?_
    refine Ev.bipush (v := 20) rfl (by decide) ?_
    refine Ev.jne (tgt := 108) rfl (by decide) (fun c90 => ?_) (fun c90 => absurd (nI_injL (b := 20) (by omega) (by decide) c90) (by omega))
    refine Ev.ret rfl rfl (Nat.le_refl _) (Nat.le_refl _) ?_
    rw [← hQ]
    refine ⟨rfl, fr, ?_⟩
    have hl : 6 ≤ P.1 := Nat.le_of_not_lt (fun h => c69 (nI_lt (b := 6) h (by decide)))
    have e : lstP k P s a = (rnt s 3 a) := by
      unfold lstP
      exact if_pos ⟨hk.1, hk.2, hl⟩
    show τ501.2 r = some (.inr (.inr (5, [.ref (r + 1), .ref (r + 12), .int (nI (Rf (lstP k P s a))), .int (Rp (lstP k P s a)), .ref b, .int (nI n), .int tk0, .int (nI a), .int en0, .int va0, .ref (r + 20), .int si])))
    rw [e]
    exact h_rd
theorem chkW_20  {tk0 en0 va0 si : Int32} (h_rd : σ.2 r = some (.inr (.inr (5, [.ref (r + 1), .ref (r + 12), .int (nI (Rf s)), .int (Rp s), .ref b, .int (nI n), .int tk0, .int (nI a), .int en0, .int va0, .ref (r + 20), .int si])))) (hS : isS σ (r + 1) S) (hP : isP σ (r + 12) P) (hn16 : S.1 ≤ 16) (hn5 : S.2.1 ≤ 5) (h6 : P.1 ≤ 6) (hf4 : Rf s ≤ 4)  : RetX Γ m_Reader_checkWord [.ref r, .int 20] σ r (r + 1) none (fun τ => τ.2 r = some (.inr (.inr (5, [.ref (r + 1), .ref (r + 12), .int (nI (Rf (lstP 20 P s a))), .int (Rp (lstP 20 P s a)), .ref b, .int (nI n), .int tk0, .int (nI a), .int en0, .int va0, .ref (r + 20), .int si])))) := by
  obtain ⟨h0, h1, h2, h3, h4, h5, h6a, h7, h8, h9, h10⟩ := id hS
  obtain ⟨p0, ⟨fp, p1, p2⟩, p3⟩ := id hP
  unfold RetX
  generalize hQ : ((fun (r0 : Option Value) (τ : ex_S) => r0 = none ∧ frm σ τ r (r + 1) ∧ (fun τ : ex_S => τ.2 r = some (.inr (.inr (5, [.ref (r + 1), .ref (r + 12), .int (nI (Rf (lstP 20 P s a))), .int (Rp (lstP 20 P s a)), .ref b, .int (nI n), .int tk0, .int (nI a), .int en0, .int va0, .ref (r + 20), .int si])))) τ)) = Q
  refine Ret.start pm_120 rfl ?_
  have fr : frm σ σ r (r + 1) := frm.rf
  refine Ev.iload_n rfl rfl ?_
  refine Ev.zne (tgt := 24) rfl (by decide) (fun c1 => ?_) (fun c1 => absurd c1 (by decide))
  refine Ev.iload_n rfl rfl ?_
  refine Ev.iconst (v := 3) rfl (by decide) ?_
  refine Ev.jne (tgt := 48) rfl (by decide) (fun c26 => ?_) (fun c26 => absurd c26 (by decide))
  refine Ev.iload_n rfl rfl ?_
  refine Ev.bipush (v := 15) rfl (by decide) ?_
  refine Ev.jlt (tgt := 76) rfl (by decide) (fun c51 => absurd c51 (by decide)) (fun c51 => ?_)
  refine Ev.iload_n rfl rfl ?_
  refine Ev.bipush (v := 20) rfl (by decide) ?_
  refine Ev.jge (tgt := 76) rfl (by decide) (fun c57 => ?_) (fun c57 => absurd c57 (by decide))
  refine Ev.iconst (v := 0) rfl (by decide) ?_
  refine Ev.istore_n rfl rfl rfl ?_
  refine Ev.iload_n rfl rfl ?_
  refine Ev.zeq (tgt := 87) rfl (by decide) (fun c79 => ?_) (fun c79 => absurd (by decide) c79)
  refine Ev.iload_n rfl rfl ?_
  refine Ev.bipush (v := 20) rfl (by decide) ?_
  refine Ev.jne (tgt := 108) rfl (by decide) (fun c90 => absurd (by decide) c90) (fun c90 => ?_)
  refine Ev.aload_n rfl rfl ?_
  refine Ev.getf rfl rfl h_rd rfl ?_
  refine Ev.getf rfl rfl p0 rfl ?_
  refine Ev.zne (tgt := 108) rfl (by decide) (fun c100 => ?_) (fun c100 => ?_)
  · skip
    refine Ev.ret rfl rfl (Nat.le_refl _) (Nat.le_refl _) ?_
    rw [← hQ]
    refine ⟨rfl, fr, ?_⟩
    have hl : ¬ P.1 = 0 := fun h => c100 (congrArg nI h)
    have e : lstP 20 P s a = s := by
      unfold lstP
      rw [if_neg (by omega)]
      exact if_neg (by omega)
    show σ.2 r = some (.inr (.inr (5, [.ref (r + 1), .ref (r + 12), .int (nI (Rf (lstP 20 P s a))), .int (Rp (lstP 20 P s a)), .ref b, .int (nI n), .int tk0, .int (nI a), .int en0, .int va0, .ref (r + 20), .int si])))
    rw [e]
    exact h_rd
  · skip
    refine Ev.aload_n rfl rfl ?_
    refine Ev.iconst (v := 4) rfl (by decide) ?_
    refine Ev.xV1u rfl rfl h_rd rfl rfl (by decide) ⟨(Nat.le_refl _), (Nat.le_refl _)⟩ (note_ok (k := 4) h_rd hf4 (by decide)) (fun τ501 f9 h_rd => ?_)
    have fr := fr.step f9 (by omega) (by omega)
    refine Ev.ret rfl rfl (Nat.le_refl _) (Nat.le_refl _) ?_
    rw [← hQ]
    refine ⟨rfl, fr, ?_⟩
    have hl : P.1 = 0 := nI_injL (b := 0) (by omega) (by decide) c100
    have e : lstP 20 P s a = (rnt s 4 a) := by
      unfold lstP
      rw [if_neg (by omega)]
      exact if_pos ⟨rfl, hl⟩
    show τ501.2 r = some (.inr (.inr (5, [.ref (r + 1), .ref (r + 12), .int (nI (Rf (lstP 20 P s a))), .int (Rp (lstP 20 P s a)), .ref b, .int (nI n), .int tk0, .int (nI a), .int en0, .int va0, .ref (r + 20), .int si])))
    rw [e]
    exact h_rd
theorem chkW_o {k : Nat} {tk0 en0 va0 si : Int32} (h_rd : σ.2 r = some (.inr (.inr (5, [.ref (r + 1), .ref (r + 12), .int (nI (Rf s)), .int (Rp s), .ref b, .int (nI n), .int tk0, .int (nI a), .int en0, .int va0, .ref (r + 20), .int si])))) (hS : isS σ (r + 1) S) (hP : isP σ (r + 12) P) (hn16 : S.1 ≤ 16) (hn5 : S.2.1 ≤ 5) (h6 : P.1 ≤ 6) (hf4 : Rf s ≤ 4) (hk : k ≠ 0 ∧ k ≠ 3 ∧ k < 15) : RetX Γ m_Reader_checkWord [.ref r, .int (nI k)] σ r (r + 1) none (fun τ => τ.2 r = some (.inr (.inr (5, [.ref (r + 1), .ref (r + 12), .int (nI (Rf s)), .int (Rp s), .ref b, .int (nI n), .int tk0, .int (nI a), .int en0, .int va0, .ref (r + 20), .int si])))) := by
  obtain ⟨h0, h1, h2, h3, h4, h5, h6a, h7, h8, h9, h10⟩ := id hS
  obtain ⟨p0, ⟨fp, p1, p2⟩, p3⟩ := id hP
  unfold RetX
  generalize hQ : ((fun (r0 : Option Value) (τ : ex_S) => r0 = none ∧ frm σ τ r (r + 1) ∧ (fun τ : ex_S => τ.2 r = some (.inr (.inr (5, [.ref (r + 1), .ref (r + 12), .int (nI (Rf s)), .int (Rp s), .ref b, .int (nI n), .int tk0, .int (nI a), .int en0, .int va0, .ref (r + 20), .int si])))) τ)) = Q
  refine Ret.start pm_120 rfl ?_
  have fr : frm σ σ r (r + 1) := frm.rf
  refine Ev.iload_n rfl rfl ?_
  refine Ev.zne (tgt := 24) rfl (by decide) (fun c1 => ?_) (fun c1 => absurd (nI_injL (b := 0) (by omega) (by decide) c1) (by omega))
  refine Ev.iload_n rfl rfl ?_
  refine Ev.iconst (v := 3) rfl (by decide) ?_
  refine Ev.jne (tgt := 48) rfl (by decide) (fun c26 => ?_) (fun c26 => absurd (nI_injL (b := 3) (by omega) (by decide) c26) (by omega))
  refine Ev.iload_n rfl rfl ?_
  refine Ev.bipush (v := 15) rfl (by decide) ?_
  refine Ev.jlt (tgt := 76) rfl (by decide) (fun c51 => ?_) (fun c51 => absurd (nI_lt (a := k) (b := 15) (by omega) (by decide)) c51)
  refine Ev.iconst (v := 0) rfl (by decide) ?_
  refine Ev.istore_n rfl rfl rfl ?_
  refine Ev.iload_n rfl rfl ?_
  refine Ev.zeq (tgt := 87) rfl (by decide) (fun c79 => ?_) (fun c79 => absurd (by decide) c79)
  refine Ev.iload_n rfl rfl ?_
  refine Ev.bipush (v := 20) rfl (by decide) ?_
  refine Ev.jne (tgt := 108) rfl (by decide) (fun c90 => ?_) (fun c90 => absurd (nI_injL (b := 20) (by omega) (by decide) c90) (by omega))
  refine Ev.ret rfl rfl (Nat.le_refl _) (Nat.le_refl _) ?_
  rw [← hQ]
  refine ⟨rfl, fr, ?_⟩
  exact h_rd
theorem chkW_s {tk0 en0 va0 si : Int32} {k : Nat} (h_rd : σ.2 r = some (.inr (.inr (5, [.ref (r + 1), .ref (r + 12), .int (nI (Rf s)), .int (Rp s), .ref b, .int (nI n), .int tk0, .int (nI a), .int en0, .int va0, .ref (r + 20), .int si])))) (hS : isS σ (r + 1) S) (hP : isP σ (r + 12) P) (hn16 : S.1 ≤ 16) (hn5 : S.2.1 ≤ 5) (h6 : P.1 ≤ 6) (hf4 : Rf s ≤ 4) (hk : k < 15) : RetX Γ m_Reader_checkWord [.ref r, .int (nI k)] σ r (r + 1) none (fun τ => τ.2 r = some (.inr (.inr (5, [.ref (r + 1), .ref (r + 12), .int (nI (Rf (lstS k S s a))), .int (Rp (lstS k S s a)), .ref b, .int (nI n), .int tk0, .int (nI a), .int en0, .int va0, .ref (r + 20), .int si])))) := by
  by_cases c : k = 0
  · subst c
    exact chkW_0 h_rd hS hP hn16 hn5 h6 hf4
  · by_cases d : k = 3
    · subst d
      exact chkW_3 h_rd hS hP hn16 hn5 h6 hf4
    · have e : lstS k S s a = s := by
        unfold lstS
        exact if_neg (by omega)
      rw [e]
      exact chkW_o h_rd hS hP hn16 hn5 h6 hf4 ⟨c, d, hk⟩
theorem tkN_g {k j : Nat} {v n0 : Nat} {tk0 en0 si : Int32} (h_rd : σ.2 r = some (.inr (.inr (5, [.ref (r + 1), .ref (r + 12), .int (nI (Rf s)), .int (Rp s), .ref b, .int (nI n), .int tk0, .int (nI a), .int en0, .int (nI v), .ref (r + 20), .int si])))) {nu : Nat → Int32} (h_nu : σ.2 (r + 20) = some (.inl (0, 4, nu))) (hR : rdst Γ) (hS : isS σ (r + 1) S) (hn16 : S.1 ≤ 16) (hf4 : Rf s ≤ 4) (hv : v ≤ 999) (hb0 : n0 ≤ 999) (hk : k ≤ 20) (hj : j < 4) (hg : k ≠ 1 ∧ k ≠ 2 ∧ k ≠ 7) : RetX Γ m_Reader_takeNumber [.ref r, .int (nI k), .int (nI j)] σ r (r + 21) none (fun τ => τ.2 r = some (.inr (.inr (5, [.ref (r + 1), .ref (r + 12), .int (nI (Rf (tkn k j n0 S.1 v s a))), .int (Rp (tkn k j n0 S.1 v s a)), .ref b, .int (nI n), .int tk0, .int (nI a), .int en0, .int (nI v), .ref (r + 20), .int (si ||| (1 : Int32) <<< ((nI v &&& 15) &&& 31))]))) ∧ τ.2 (r + 20) = some (.inl (0, 4, upd nu j (nI v))) ∧ ∀ q, q ≠ r → q ≠ r + 20 → τ.2 q = σ.2 q) := by
  obtain ⟨-, ⟨qhL, hL1, hL2⟩, ⟨qhH, hH1, hH2⟩⟩ := id hR
  obtain ⟨gl, hgl⟩ : ∃ q, q = LOl.getD (k * 4 + j) 0 := ⟨_, rfl⟩
  obtain ⟨gh, hgh⟩ : ∃ q, q = HIl.getD (k * 4 + j) 0 := ⟨_, rfl⟩
  have hLO : gl ≤ 999 := by rw [hgl]; exact LO_le _
  have hHI : gh ≤ 999 := by rw [hgh]; exact HI_le _
  obtain ⟨FL, hFL⟩ : ∃ F : Nat → Int32, F = (fun j => nI (LOl.getD j 0)) := ⟨_, rfl⟩
  obtain ⟨FH, hFH⟩ : ∃ F : Nat → Int32, F = (fun j => nI (HIl.getD j 0)) := ⟨_, rfl⟩
  have eFL : FL (k * 4 + j) = nI gl := by rw [hFL, hgl]
  have eFH : FH (k * 4 + j) = nI gh := by rw [hFH, hgh]
  rw [← hFL] at hL2
  rw [← hFH] at hH2
  obtain ⟨h0, h1, h2, h3, h4, h5, h6a, h7, h8, h9, h10⟩ := id hS
  unfold RetX
  generalize hQ : ((fun (r0 : Option Value) (τ : ex_S) => r0 = none ∧ frm σ τ r (r + 21) ∧ (fun τ : ex_S => τ.2 r = some (.inr (.inr (5, [.ref (r + 1), .ref (r + 12), .int (nI (Rf (tkn k j n0 S.1 v s a))), .int (Rp (tkn k j n0 S.1 v s a)), .ref b, .int (nI n), .int tk0, .int (nI a), .int en0, .int (nI v), .ref (r + 20), .int (si ||| (1 : Int32) <<< ((nI v &&& 15) &&& 31))]))) ∧ τ.2 (r + 20) = some (.inl (0, 4, upd nu j (nI v))) ∧ ∀ q, q ≠ r → q ≠ r + 20 → τ.2 q = σ.2 q) τ)) = Q
  refine Ret.start pm_121 rfl ?_
  have fr : frm σ σ r (r + 21) := frm.rf
  have kp : (∀ q, q ≠ r → q ≠ r + 20 → σ.2 q = σ.2 q) := fun _ _ _ => rfl
  refine Ev.iload_n rfl rfl ?_
  refine Ev.iconst (v := 4) rfl (by decide) ?_
  refine Ev.imul rfl ?_
  refine Ev.iload_n rfl rfl ?_
  refine Ev.iadd rfl ?_
  rw [show ((nI k) * (4 : Int32)) + (nI j) = nI (k * 4 + j) from (nq_add (a := k * 4) (b := j) (nq_mul (a := k) (b := 4) rfl (rfl : (4 : Int32) = nI 4)) rfl)]
  refine Ev.istore_n rfl rfl rfl ?_
  refine Ev.iload_n rfl rfl ?_
  refine Ev.zlt (tgt := 31) rfl (by decide) (fun c7 => absurd c7 (nI_pos (by omega))) (fun c7 => ?_)
  refine Ev.iload_n rfl rfl ?_
  refine Ev.iconst (v := 4) rfl (by decide) ?_
  refine Ev.jge (tgt := 31) rfl (by decide) (fun c12 => absurd (nI_lt (a := j) (b := 4) (by omega) (by decide)) c12) (fun c12 => ?_)
  refine Ev.iload_n rfl rfl ?_
  refine Ev.gets (g := 2) rfl rfl ?_
  rw [hL1]
  refine Ev.alenS rfl hL2 rfl ?_
  refine Ev.jge (tgt := 31) rfl (by decide) (fun c20 => absurd (nI_lt (a := k * 4 + j) (b := 84) (by omega) (by decide)) c20) (fun c20 => ?_)
  refine Ev.iload_n rfl rfl ?_
  refine Ev.gets (g := 3) rfl rfl ?_
  rw [hH1]
  refine Ev.alenS rfl hH2 rfl ?_
  refine Ev.jlt (tgt := 32) rfl (by decide) (fun c28 => ?_) (fun c28 => absurd (nI_lt (a := k * 4 + j) (b := 84) (by omega) (by decide)) c28)
  refine Ev.aload_n rfl rfl ?_
  refine Ev.getf rfl rfl h_rd rfl ?_
  refine Ev.gets (g := 2) rfl rfl ?_
  rw [hL1]
  refine Ev.iload_n rfl rfl ?_
  refine Ev.ialdSN (k := k * 4 + j) rfl hL2 rfl ⟨(by omega), by decide⟩ ?_
  rw [show FL (k * 4 + j) = nI gl from eFL]
  refine Ev.jlt (tgt := 60) rfl (by decide) (fun c41 => ?_) (fun c41 => ?_)
  · skip
    refine Ev.iconst (v := 0) rfl (by decide) ?_
    refine Ev.istore rfl rfl rfl ?_
    refine Ev.iload_n rfl rfl ?_
    refine Ev.iconst (v := 1) rfl (by decide) ?_
    refine Ev.jeq (tgt := 77) rfl (by decide) (fun c65 => absurd (nI_injL (b := 1) (by omega) (by decide) c65) hg.1) (fun c65 => ?_)
    refine Ev.iload_n rfl rfl ?_
    refine Ev.iconst (v := 2) rfl (by decide) ?_
    refine Ev.jne (tgt := 115) rfl (by decide) (fun c70 => ?_) (fun c70 => absurd (nI_injL (b := 2) (by omega) (by decide) c70) hg.2.1)
    refine Ev.iload_n rfl rfl ?_
    refine Ev.bipush (v := 7) rfl (by decide) ?_
    refine Ev.jne (tgt := 151) rfl (by decide) (fun c118 => ?_) (fun c118 => absurd (nI_injL (b := 7) (by omega) (by decide) c118) hg.2.2)
    refine Ev.iload rfl rfl ?_
    refine Ev.zne (tgt := 161) rfl (by decide) (fun c153 => absurd (by decide) c153) (fun c153 => ?_)
    refine Ev.aload_n rfl rfl ?_
    refine Ev.iconst (v := 2) rfl (by decide) ?_
    refine Ev.xV1u rfl rfl h_rd rfl rfl (by decide) ⟨(Nat.le_refl _), (Nat.le_refl _)⟩ (note_ok (k := 2) h_rd hf4 (by decide)) (fun τ501 f9 h_rd => ?_)
    have h_nu := frm.cell f9 h_nu (by omega)
    have kp := fun q n0 n1 => (f9.2 q (by omega)).trans (kp q n0 n1)
    have fr := fr.step f9 (by omega) (by omega)
    refine Ev.aload_n rfl rfl ?_
    refine Ev.getf rfl rfl h_rd rfl ?_
    refine Ev.iload_n rfl rfl ?_
    refine Ev.aload_n rfl rfl ?_
    refine Ev.getf rfl rfl h_rd rfl ?_
    refine Ev.iastE (k := j) rfl h_nu rfl ⟨(by omega), by decide⟩ (fun τ2 f1 h_nu => ?_)
    have h_rd := frm.cell f1 h_rd (by omega)
    have kp : (∀ q, q ≠ r → q ≠ r + 20 → τ2.2 q = σ.2 q) := fun q n0 n1 => (f1.2 q (by omega)).trans (kp q n0 n1)
    have fr := fr.step f1 (by omega) (by omega)
    refine Ev.aload_n rfl rfl ?_
    refine Ev.dup rfl rfl ?_
    refine Ev.getf rfl rfl h_rd rfl ?_
    refine Ev.iconst (v := 1) rfl (by decide) ?_
    refine Ev.aload_n rfl rfl ?_
    refine Ev.getf rfl rfl h_rd rfl ?_
    refine Ev.bipush (v := 15) rfl (by decide) ?_
    refine Ev.iand rfl ?_
    refine Ev.ishl rfl ?_
    refine Ev.ior rfl ?_
    refine Ev.putE rfl rfl h_rd rfl rfl rfl (Nat.le_of_ble_eq_true rfl) (fun τ3 f1 h_rd => ?_)
    replace h_rd : τ3.2 r = some (.inr (.inr (5, [(.ref (r + 1)), (.ref (r + 12)), (.int (nI (Rf (rnt s 2 a)))), (.int (Rp (rnt s 2 a))), (.ref b), (.int (nI n)), (.int tk0), (.int (nI a)), (.int en0), (.int (nI v)), (.ref (r + 20)), (.int (si ||| ((1 : Int32) <<< (((nI v) &&& (15 : Int32)) &&& 31))))]))) := h_rd
    have h_nu := frm.cell f1 h_nu (by omega)
    have kp : (∀ q, q ≠ r → q ≠ r + 20 → τ3.2 q = σ.2 q) := fun q n0 n1 => (f1.2 q (by omega)).trans (kp q n0 n1)
    have fr := fr.step f1 (by omega) (by omega)
    refine Ev.ret rfl rfl (Nat.le_refl _) (Nat.le_refl _) ?_
    have h1 : v < gl := (nI_ltI (by omega) (by omega)).mp c41
    have hG : ¬ gds k j n0 S.1 v = true := by
      unfold gds
      rw [if_neg hg.1, if_neg (fun h => hg.2.1 h.1), if_neg (fun h => hg.2.2 h.1), ← hgl, ← hgh, decide_eq_false (Nat.not_le.mpr h1)]
      exact fun h => (nomatch h)
    rw [← hQ]
    refine ⟨rfl, fr, ?_, h_nu, kp⟩
    show τ3.2 r = some (.inr (.inr (5, [.ref (r + 1), .ref (r + 12), .int (nI (Rf (tkn k j n0 S.1 v s a))), .int (Rp (tkn k j n0 S.1 v s a)), .ref b, .int (nI n), .int tk0, .int (nI a), .int en0, .int (nI v), .ref (r + 20), .int (si ||| (1 : Int32) <<< ((nI v &&& 15) &&& 31))])))
    rw [show tkn k j n0 S.1 v s a = (rnt s 2 a) from if_neg hG]
    exact h_rd
  · skip
    refine Ev.aload_n rfl rfl ?_
    refine Ev.getf rfl rfl h_rd rfl ?_
    refine Ev.gets (g := 3) rfl rfl ?_
    rw [hH1]
    refine Ev.iload_n rfl rfl ?_
    refine Ev.ialdSN (k := k * 4 + j) rfl hH2 rfl ⟨(by omega), by decide⟩ ?_
    rw [show FH (k * 4 + j) = nI gh from eFH]
    refine Ev.jgt (tgt := 60) rfl (by decide) (fun c53 => ?_) (fun c53 => ?_)
    · skip
      refine Ev.iconst (v := 0) rfl (by decide) ?_
      refine Ev.istore rfl rfl rfl ?_
      refine Ev.iload_n rfl rfl ?_
      refine Ev.iconst (v := 1) rfl (by decide) ?_
      refine Ev.jeq (tgt := 77) rfl (by decide) (fun c65 => absurd (nI_injL (b := 1) (by omega) (by decide) c65) hg.1) (fun c65 => ?_)
      refine Ev.iload_n rfl rfl ?_
      refine Ev.iconst (v := 2) rfl (by decide) ?_
      refine Ev.jne (tgt := 115) rfl (by decide) (fun c70 => ?_) (fun c70 => absurd (nI_injL (b := 2) (by omega) (by decide) c70) hg.2.1)
      refine Ev.iload_n rfl rfl ?_
      refine Ev.bipush (v := 7) rfl (by decide) ?_
      refine Ev.jne (tgt := 151) rfl (by decide) (fun c118 => ?_) (fun c118 => absurd (nI_injL (b := 7) (by omega) (by decide) c118) hg.2.2)
      refine Ev.iload rfl rfl ?_
      refine Ev.zne (tgt := 161) rfl (by decide) (fun c153 => absurd (by decide) c153) (fun c153 => ?_)
      refine Ev.aload_n rfl rfl ?_
      refine Ev.iconst (v := 2) rfl (by decide) ?_
      refine Ev.xV1u rfl rfl h_rd rfl rfl (by decide) ⟨(Nat.le_refl _), (Nat.le_refl _)⟩ (note_ok (k := 2) h_rd hf4 (by decide)) (fun τ504 f9 h_rd => ?_)
      have h_nu := frm.cell f9 h_nu (by omega)
      have kp := fun q n0 n1 => (f9.2 q (by omega)).trans (kp q n0 n1)
      have fr := fr.step f9 (by omega) (by omega)
      refine Ev.aload_n rfl rfl ?_
      refine Ev.getf rfl rfl h_rd rfl ?_
      refine Ev.iload_n rfl rfl ?_
      refine Ev.aload_n rfl rfl ?_
      refine Ev.getf rfl rfl h_rd rfl ?_
      refine Ev.iastE (k := j) rfl h_nu rfl ⟨(by omega), by decide⟩ (fun τ5 f1 h_nu => ?_)
      have h_rd := frm.cell f1 h_rd (by omega)
      have kp : (∀ q, q ≠ r → q ≠ r + 20 → τ5.2 q = σ.2 q) := fun q n0 n1 => (f1.2 q (by omega)).trans (kp q n0 n1)
      have fr := fr.step f1 (by omega) (by omega)
      refine Ev.aload_n rfl rfl ?_
      refine Ev.dup rfl rfl ?_
      refine Ev.getf rfl rfl h_rd rfl ?_
      refine Ev.iconst (v := 1) rfl (by decide) ?_
      refine Ev.aload_n rfl rfl ?_
      refine Ev.getf rfl rfl h_rd rfl ?_
      refine Ev.bipush (v := 15) rfl (by decide) ?_
      refine Ev.iand rfl ?_
      refine Ev.ishl rfl ?_
      refine Ev.ior rfl ?_
      refine Ev.putE rfl rfl h_rd rfl rfl rfl (Nat.le_of_ble_eq_true rfl) (fun τ6 f1 h_rd => ?_)
      replace h_rd : τ6.2 r = some (.inr (.inr (5, [(.ref (r + 1)), (.ref (r + 12)), (.int (nI (Rf (rnt s 2 a)))), (.int (Rp (rnt s 2 a))), (.ref b), (.int (nI n)), (.int tk0), (.int (nI a)), (.int en0), (.int (nI v)), (.ref (r + 20)), (.int (si ||| ((1 : Int32) <<< (((nI v) &&& (15 : Int32)) &&& 31))))]))) := h_rd
      have h_nu := frm.cell f1 h_nu (by omega)
      have kp : (∀ q, q ≠ r → q ≠ r + 20 → τ6.2 q = σ.2 q) := fun q n0 n1 => (f1.2 q (by omega)).trans (kp q n0 n1)
      have fr := fr.step f1 (by omega) (by omega)
      refine Ev.ret rfl rfl (Nat.le_refl _) (Nat.le_refl _) ?_
      have h1 : gh < v := (nI_ltI (by omega) (by omega)).mp c53
      have hG : ¬ gds k j n0 S.1 v = true := by
        unfold gds
        rw [if_neg hg.1, if_neg (fun h => hg.2.1 h.1), if_neg (fun h => hg.2.2 h.1), ← hgl, ← hgh, decide_eq_false (Nat.not_le.mpr h1), Bool.and_false]
        exact fun h => (nomatch h)
      rw [← hQ]
      refine ⟨rfl, fr, ?_, h_nu, kp⟩
      show τ6.2 r = some (.inr (.inr (5, [.ref (r + 1), .ref (r + 12), .int (nI (Rf (tkn k j n0 S.1 v s a))), .int (Rp (tkn k j n0 S.1 v s a)), .ref b, .int (nI n), .int tk0, .int (nI a), .int en0, .int (nI v), .ref (r + 20), .int (si ||| (1 : Int32) <<< ((nI v &&& 15) &&& 31))])))
      rw [show tkn k j n0 S.1 v s a = (rnt s 2 a) from if_neg hG]
      exact h_rd
    · skip
      refine Ev.iconst (v := 1) rfl (by decide) ?_
      refine Ev.goto (tgt := 61) rfl (by decide) ?_
      refine Ev.istore rfl rfl rfl ?_
      refine Ev.iload_n rfl rfl ?_
      refine Ev.iconst (v := 1) rfl (by decide) ?_
      refine Ev.jeq (tgt := 77) rfl (by decide) (fun c65 => absurd (nI_injL (b := 1) (by omega) (by decide) c65) hg.1) (fun c65 => ?_)
      refine Ev.iload_n rfl rfl ?_
      refine Ev.iconst (v := 2) rfl (by decide) ?_
      refine Ev.jne (tgt := 115) rfl (by decide) (fun c70 => ?_) (fun c70 => absurd (nI_injL (b := 2) (by omega) (by decide) c70) hg.2.1)
      refine Ev.iload_n rfl rfl ?_
      refine Ev.bipush (v := 7) rfl (by decide) ?_
      refine Ev.jne (tgt := 151) rfl (by decide) (fun c118 => ?_) (fun c118 => absurd (nI_injL (b := 7) (by omega) (by decide) c118) hg.2.2)
      refine Ev.iload rfl rfl ?_
      refine Ev.zne (tgt := 161) rfl (by decide) (fun c153 => ?_) (fun c153 => absurd c153 (by decide))
      refine Ev.aload_n rfl rfl ?_
      refine Ev.getf rfl rfl h_rd rfl ?_
      refine Ev.iload_n rfl rfl ?_
      refine Ev.aload_n rfl rfl ?_
      refine Ev.getf rfl rfl h_rd rfl ?_
      refine Ev.iastE (k := j) rfl h_nu rfl ⟨(by omega), by decide⟩ (fun τ7 f1 h_nu => ?_)
      have h_rd := frm.cell f1 h_rd (by omega)
      have kp : (∀ q, q ≠ r → q ≠ r + 20 → τ7.2 q = σ.2 q) := fun q n0 n1 => (f1.2 q (by omega)).trans (kp q n0 n1)
      have fr := fr.step f1 (by omega) (by omega)
      refine Ev.aload_n rfl rfl ?_
      refine Ev.dup rfl rfl ?_
      refine Ev.getf rfl rfl h_rd rfl ?_
      refine Ev.iconst (v := 1) rfl (by decide) ?_
      refine Ev.aload_n rfl rfl ?_
      refine Ev.getf rfl rfl h_rd rfl ?_
      refine Ev.bipush (v := 15) rfl (by decide) ?_
      refine Ev.iand rfl ?_
      refine Ev.ishl rfl ?_
      refine Ev.ior rfl ?_
      refine Ev.putE rfl rfl h_rd rfl rfl rfl (Nat.le_of_ble_eq_true rfl) (fun τ8 f1 h_rd => ?_)
      replace h_rd : τ8.2 r = some (.inr (.inr (5, [(.ref (r + 1)), (.ref (r + 12)), (.int (nI (Rf s))), (.int (Rp s)), (.ref b), (.int (nI n)), (.int tk0), (.int (nI a)), (.int en0), (.int (nI v)), (.ref (r + 20)), (.int (si ||| ((1 : Int32) <<< (((nI v) &&& (15 : Int32)) &&& 31))))]))) := h_rd
      have h_nu := frm.cell f1 h_nu (by omega)
      have kp : (∀ q, q ≠ r → q ≠ r + 20 → τ8.2 q = σ.2 q) := fun q n0 n1 => (f1.2 q (by omega)).trans (kp q n0 n1)
      have fr := fr.step f1 (by omega) (by omega)
      refine Ev.ret rfl rfl (Nat.le_refl _) (Nat.le_refl _) ?_
      have h1 : gl ≤ v := Nat.le_of_not_lt (fun h => c41 (nI_lt h (by omega)))
      have h2 : v ≤ gh := Nat.le_of_not_lt (fun h => c53 (nI_lt h (by omega)))
      have hG : gds k j n0 S.1 v = true := by
        unfold gds
        rw [if_neg hg.1, if_neg (fun h => hg.2.1 h.1), if_neg (fun h => hg.2.2 h.1), ← hgl, ← hgh, decide_eq_true h1, decide_eq_true h2]
        rfl
      rw [← hQ]
      refine ⟨rfl, fr, ?_, h_nu, kp⟩
      show τ8.2 r = some (.inr (.inr (5, [.ref (r + 1), .ref (r + 12), .int (nI (Rf (tkn k j n0 S.1 v s a))), .int (Rp (tkn k j n0 S.1 v s a)), .ref b, .int (nI n), .int tk0, .int (nI a), .int en0, .int (nI v), .ref (r + 20), .int (si ||| (1 : Int32) <<< ((nI v &&& 15) &&& 31))])))
      rw [show tkn k j n0 S.1 v s a = s from if_pos hG]
      exact h_rd
theorem tkN_g2 {j : Nat} {v n0 : Nat} {tk0 en0 si : Int32} (h_rd : σ.2 r = some (.inr (.inr (5, [.ref (r + 1), .ref (r + 12), .int (nI (Rf s)), .int (Rp s), .ref b, .int (nI n), .int tk0, .int (nI a), .int en0, .int (nI v), .ref (r + 20), .int si])))) {nu : Nat → Int32} (h_nu : σ.2 (r + 20) = some (.inl (0, 4, nu))) (hR : rdst Γ) (hS : isS σ (r + 1) S) (hn16 : S.1 ≤ 16) (hf4 : Rf s ≤ 4) (hv : v ≤ 999) (hb0 : n0 ≤ 999) (hj : j < 4) (hg : ¬ j = 0) : RetX Γ m_Reader_takeNumber [.ref r, .int 2, .int (nI j)] σ r (r + 21) none (fun τ => τ.2 r = some (.inr (.inr (5, [.ref (r + 1), .ref (r + 12), .int (nI (Rf (tkn 2 j n0 S.1 v s a))), .int (Rp (tkn 2 j n0 S.1 v s a)), .ref b, .int (nI n), .int tk0, .int (nI a), .int en0, .int (nI v), .ref (r + 20), .int (si ||| (1 : Int32) <<< ((nI v &&& 15) &&& 31))]))) ∧ τ.2 (r + 20) = some (.inl (0, 4, upd nu j (nI v))) ∧ ∀ q, q ≠ r → q ≠ r + 20 → τ.2 q = σ.2 q) := by
  obtain ⟨-, ⟨qhL, hL1, hL2⟩, ⟨qhH, hH1, hH2⟩⟩ := id hR
  obtain ⟨gl, hgl⟩ : ∃ q, q = LOl.getD (2 * 4 + j) 0 := ⟨_, rfl⟩
  obtain ⟨gh, hgh⟩ : ∃ q, q = HIl.getD (2 * 4 + j) 0 := ⟨_, rfl⟩
  have hLO : gl ≤ 999 := by rw [hgl]; exact LO_le _
  have hHI : gh ≤ 999 := by rw [hgh]; exact HI_le _
  obtain ⟨FL, hFL⟩ : ∃ F : Nat → Int32, F = (fun j => nI (LOl.getD j 0)) := ⟨_, rfl⟩
  obtain ⟨FH, hFH⟩ : ∃ F : Nat → Int32, F = (fun j => nI (HIl.getD j 0)) := ⟨_, rfl⟩
  have eFL : FL (2 * 4 + j) = nI gl := by rw [hFL, hgl]
  have eFH : FH (2 * 4 + j) = nI gh := by rw [hFH, hgh]
  rw [← hFL] at hL2
  rw [← hFH] at hH2
  obtain ⟨h0, h1, h2, h3, h4, h5, h6a, h7, h8, h9, h10⟩ := id hS
  unfold RetX
  generalize hQ : ((fun (r0 : Option Value) (τ : ex_S) => r0 = none ∧ frm σ τ r (r + 21) ∧ (fun τ : ex_S => τ.2 r = some (.inr (.inr (5, [.ref (r + 1), .ref (r + 12), .int (nI (Rf (tkn 2 j n0 S.1 v s a))), .int (Rp (tkn 2 j n0 S.1 v s a)), .ref b, .int (nI n), .int tk0, .int (nI a), .int en0, .int (nI v), .ref (r + 20), .int (si ||| (1 : Int32) <<< ((nI v &&& 15) &&& 31))]))) ∧ τ.2 (r + 20) = some (.inl (0, 4, upd nu j (nI v))) ∧ ∀ q, q ≠ r → q ≠ r + 20 → τ.2 q = σ.2 q) τ)) = Q
  refine Ret.start pm_121 rfl ?_
  have fr : frm σ σ r (r + 21) := frm.rf
  have kp : (∀ q, q ≠ r → q ≠ r + 20 → σ.2 q = σ.2 q) := fun _ _ _ => rfl
  refine Ev.iload_n rfl rfl ?_
  refine Ev.iconst (v := 4) rfl (by decide) ?_
  refine Ev.imul rfl ?_
  refine Ev.iload_n rfl rfl ?_
  refine Ev.iadd rfl ?_
  rw [show ((2 : Int32) * (4 : Int32)) + (nI j) = nI (2 * 4 + j) from (nq_add (a := 2 * 4) (b := j) (nq_mul (a := 2) (b := 4) (rfl : (2 : Int32) = nI 2) (rfl : (4 : Int32) = nI 4)) rfl)]
  refine Ev.istore_n rfl rfl rfl ?_
  refine Ev.iload_n rfl rfl ?_
  refine Ev.zlt (tgt := 31) rfl (by decide) (fun c7 => absurd c7 (nI_pos (by omega))) (fun c7 => ?_)
  refine Ev.iload_n rfl rfl ?_
  refine Ev.iconst (v := 4) rfl (by decide) ?_
  refine Ev.jge (tgt := 31) rfl (by decide) (fun c12 => absurd (nI_lt (a := j) (b := 4) (by omega) (by decide)) c12) (fun c12 => ?_)
  refine Ev.iload_n rfl rfl ?_
  refine Ev.gets (g := 2) rfl rfl ?_
  rw [hL1]
  refine Ev.alenS rfl hL2 rfl ?_
  refine Ev.jge (tgt := 31) rfl (by decide) (fun c20 => absurd (nI_lt (a := 2 * 4 + j) (b := 84) (by omega) (by decide)) c20) (fun c20 => ?_)
  refine Ev.iload_n rfl rfl ?_
  refine Ev.gets (g := 3) rfl rfl ?_
  rw [hH1]
  refine Ev.alenS rfl hH2 rfl ?_
  refine Ev.jlt (tgt := 32) rfl (by decide) (fun c28 => ?_) (fun c28 => absurd (nI_lt (a := 2 * 4 + j) (b := 84) (by omega) (by decide)) c28)
  refine Ev.aload_n rfl rfl ?_
  refine Ev.getf rfl rfl h_rd rfl ?_
  refine Ev.gets (g := 2) rfl rfl ?_
  rw [hL1]
  refine Ev.iload_n rfl rfl ?_
  refine Ev.ialdSN (k := 2 * 4 + j) rfl hL2 rfl ⟨(by omega), by decide⟩ ?_
  rw [show FL (2 * 4 + j) = nI gl from eFL]
  refine Ev.jlt (tgt := 60) rfl (by decide) (fun c41 => ?_) (fun c41 => ?_)
  · skip
    refine Ev.iconst (v := 0) rfl (by decide) ?_
    refine Ev.istore rfl rfl rfl ?_
    refine Ev.iload_n rfl rfl ?_
    refine Ev.iconst (v := 1) rfl (by decide) ?_
    refine Ev.jeq (tgt := 77) rfl (by decide) (fun c65 => absurd c65 (by decide)) (fun c65 => ?_)
    refine Ev.iload_n rfl rfl ?_
    refine Ev.iconst (v := 2) rfl (by decide) ?_
    refine Ev.jne (tgt := 115) rfl (by decide) (fun c70 => absurd (by decide) c70) (fun c70 => ?_)
    refine Ev.iload_n rfl rfl ?_
    refine Ev.zne (tgt := 115) rfl (by decide) (fun c74 => ?_) (fun c74 => absurd (nI_injL (b := 0) (by omega) (by decide) c74) hg)
    refine Ev.iload_n rfl rfl ?_
    refine Ev.bipush (v := 7) rfl (by decide) ?_
    refine Ev.jne (tgt := 151) rfl (by decide) (fun c118 => ?_) (fun c118 => absurd c118 (by decide))
    refine Ev.iload rfl rfl ?_
    refine Ev.zne (tgt := 161) rfl (by decide) (fun c153 => absurd (by decide) c153) (fun c153 => ?_)
    refine Ev.aload_n rfl rfl ?_
    refine Ev.iconst (v := 2) rfl (by decide) ?_
    refine Ev.xV1u rfl rfl h_rd rfl rfl (by decide) ⟨(Nat.le_refl _), (Nat.le_refl _)⟩ (note_ok (k := 2) h_rd hf4 (by decide)) (fun τ501 f9 h_rd => ?_)
    have h_nu := frm.cell f9 h_nu (by omega)
    have kp := fun q n0 n1 => (f9.2 q (by omega)).trans (kp q n0 n1)
    have fr := fr.step f9 (by omega) (by omega)
    refine Ev.aload_n rfl rfl ?_
    refine Ev.getf rfl rfl h_rd rfl ?_
    refine Ev.iload_n rfl rfl ?_
    refine Ev.aload_n rfl rfl ?_
    refine Ev.getf rfl rfl h_rd rfl ?_
    refine Ev.iastE (k := j) rfl h_nu rfl ⟨(by omega), by decide⟩ (fun τ2 f1 h_nu => ?_)
    have h_rd := frm.cell f1 h_rd (by omega)
    have kp : (∀ q, q ≠ r → q ≠ r + 20 → τ2.2 q = σ.2 q) := fun q n0 n1 => (f1.2 q (by omega)).trans (kp q n0 n1)
    have fr := fr.step f1 (by omega) (by omega)
    refine Ev.aload_n rfl rfl ?_
    refine Ev.dup rfl rfl ?_
    refine Ev.getf rfl rfl h_rd rfl ?_
    refine Ev.iconst (v := 1) rfl (by decide) ?_
    refine Ev.aload_n rfl rfl ?_
    refine Ev.getf rfl rfl h_rd rfl ?_
    refine Ev.bipush (v := 15) rfl (by decide) ?_
    refine Ev.iand rfl ?_
    refine Ev.ishl rfl ?_
    refine Ev.ior rfl ?_
    refine Ev.putE rfl rfl h_rd rfl rfl rfl (Nat.le_of_ble_eq_true rfl) (fun τ3 f1 h_rd => ?_)
    replace h_rd : τ3.2 r = some (.inr (.inr (5, [(.ref (r + 1)), (.ref (r + 12)), (.int (nI (Rf (rnt s 2 a)))), (.int (Rp (rnt s 2 a))), (.ref b), (.int (nI n)), (.int tk0), (.int (nI a)), (.int en0), (.int (nI v)), (.ref (r + 20)), (.int (si ||| ((1 : Int32) <<< (((nI v) &&& (15 : Int32)) &&& 31))))]))) := h_rd
    have h_nu := frm.cell f1 h_nu (by omega)
    have kp : (∀ q, q ≠ r → q ≠ r + 20 → τ3.2 q = σ.2 q) := fun q n0 n1 => (f1.2 q (by omega)).trans (kp q n0 n1)
    have fr := fr.step f1 (by omega) (by omega)
    refine Ev.ret rfl rfl (Nat.le_refl _) (Nat.le_refl _) ?_
    have h1 : v < gl := (nI_ltI (by omega) (by omega)).mp c41
    have hG : ¬ gds 2 j n0 S.1 v = true := by
      unfold gds
      rw [if_neg (show ¬ (2 : Nat) = 1 by decide), if_neg (fun h => hg h.2), if_neg (fun h => absurd h.1 (by decide)), ← hgl, ← hgh, decide_eq_false (Nat.not_le.mpr h1)]
      exact fun h => (nomatch h)
    rw [← hQ]
    refine ⟨rfl, fr, ?_, h_nu, kp⟩
    show τ3.2 r = some (.inr (.inr (5, [.ref (r + 1), .ref (r + 12), .int (nI (Rf (tkn 2 j n0 S.1 v s a))), .int (Rp (tkn 2 j n0 S.1 v s a)), .ref b, .int (nI n), .int tk0, .int (nI a), .int en0, .int (nI v), .ref (r + 20), .int (si ||| (1 : Int32) <<< ((nI v &&& 15) &&& 31))])))
    rw [show tkn 2 j n0 S.1 v s a = (rnt s 2 a) from if_neg hG]
    exact h_rd
  · skip
    refine Ev.aload_n rfl rfl ?_
    refine Ev.getf rfl rfl h_rd rfl ?_
    refine Ev.gets (g := 3) rfl rfl ?_
    rw [hH1]
    refine Ev.iload_n rfl rfl ?_
    refine Ev.ialdSN (k := 2 * 4 + j) rfl hH2 rfl ⟨(by omega), by decide⟩ ?_
    rw [show FH (2 * 4 + j) = nI gh from eFH]
    refine Ev.jgt (tgt := 60) rfl (by decide) (fun c53 => ?_) (fun c53 => ?_)
    · skip
      refine Ev.iconst (v := 0) rfl (by decide) ?_
      refine Ev.istore rfl rfl rfl ?_
      refine Ev.iload_n rfl rfl ?_
      refine Ev.iconst (v := 1) rfl (by decide) ?_
      refine Ev.jeq (tgt := 77) rfl (by decide) (fun c65 => absurd c65 (by decide)) (fun c65 => ?_)
      refine Ev.iload_n rfl rfl ?_
      refine Ev.iconst (v := 2) rfl (by decide) ?_
      refine Ev.jne (tgt := 115) rfl (by decide) (fun c70 => absurd (by decide) c70) (fun c70 => ?_)
      refine Ev.iload_n rfl rfl ?_
      refine Ev.zne (tgt := 115) rfl (by decide) (fun c74 => ?_) (fun c74 => absurd (nI_injL (b := 0) (by omega) (by decide) c74) hg)
      refine Ev.iload_n rfl rfl ?_
      refine Ev.bipush (v := 7) rfl (by decide) ?_
      refine Ev.jne (tgt := 151) rfl (by decide) (fun c118 => ?_) (fun c118 => absurd c118 (by decide))
      refine Ev.iload rfl rfl ?_
      refine Ev.zne (tgt := 161) rfl (by decide) (fun c153 => absurd (by decide) c153) (fun c153 => ?_)
      refine Ev.aload_n rfl rfl ?_
      refine Ev.iconst (v := 2) rfl (by decide) ?_
      refine Ev.xV1u rfl rfl h_rd rfl rfl (by decide) ⟨(Nat.le_refl _), (Nat.le_refl _)⟩ (note_ok (k := 2) h_rd hf4 (by decide)) (fun τ504 f9 h_rd => ?_)
      have h_nu := frm.cell f9 h_nu (by omega)
      have kp := fun q n0 n1 => (f9.2 q (by omega)).trans (kp q n0 n1)
      have fr := fr.step f9 (by omega) (by omega)
      refine Ev.aload_n rfl rfl ?_
      refine Ev.getf rfl rfl h_rd rfl ?_
      refine Ev.iload_n rfl rfl ?_
      refine Ev.aload_n rfl rfl ?_
      refine Ev.getf rfl rfl h_rd rfl ?_
      refine Ev.iastE (k := j) rfl h_nu rfl ⟨(by omega), by decide⟩ (fun τ5 f1 h_nu => ?_)
      have h_rd := frm.cell f1 h_rd (by omega)
      have kp : (∀ q, q ≠ r → q ≠ r + 20 → τ5.2 q = σ.2 q) := fun q n0 n1 => (f1.2 q (by omega)).trans (kp q n0 n1)
      have fr := fr.step f1 (by omega) (by omega)
      refine Ev.aload_n rfl rfl ?_
      refine Ev.dup rfl rfl ?_
      refine Ev.getf rfl rfl h_rd rfl ?_
      refine Ev.iconst (v := 1) rfl (by decide) ?_
      refine Ev.aload_n rfl rfl ?_
      refine Ev.getf rfl rfl h_rd rfl ?_
      refine Ev.bipush (v := 15) rfl (by decide) ?_
      refine Ev.iand rfl ?_
      refine Ev.ishl rfl ?_
      refine Ev.ior rfl ?_
      refine Ev.putE rfl rfl h_rd rfl rfl rfl (Nat.le_of_ble_eq_true rfl) (fun τ6 f1 h_rd => ?_)
      replace h_rd : τ6.2 r = some (.inr (.inr (5, [(.ref (r + 1)), (.ref (r + 12)), (.int (nI (Rf (rnt s 2 a)))), (.int (Rp (rnt s 2 a))), (.ref b), (.int (nI n)), (.int tk0), (.int (nI a)), (.int en0), (.int (nI v)), (.ref (r + 20)), (.int (si ||| ((1 : Int32) <<< (((nI v) &&& (15 : Int32)) &&& 31))))]))) := h_rd
      have h_nu := frm.cell f1 h_nu (by omega)
      have kp : (∀ q, q ≠ r → q ≠ r + 20 → τ6.2 q = σ.2 q) := fun q n0 n1 => (f1.2 q (by omega)).trans (kp q n0 n1)
      have fr := fr.step f1 (by omega) (by omega)
      refine Ev.ret rfl rfl (Nat.le_refl _) (Nat.le_refl _) ?_
      have h1 : gh < v := (nI_ltI (by omega) (by omega)).mp c53
      have hG : ¬ gds 2 j n0 S.1 v = true := by
        unfold gds
        rw [if_neg (show ¬ (2 : Nat) = 1 by decide), if_neg (fun h => hg h.2), if_neg (fun h => absurd h.1 (by decide)), ← hgl, ← hgh, decide_eq_false (Nat.not_le.mpr h1), Bool.and_false]
        exact fun h => (nomatch h)
      rw [← hQ]
      refine ⟨rfl, fr, ?_, h_nu, kp⟩
      show τ6.2 r = some (.inr (.inr (5, [.ref (r + 1), .ref (r + 12), .int (nI (Rf (tkn 2 j n0 S.1 v s a))), .int (Rp (tkn 2 j n0 S.1 v s a)), .ref b, .int (nI n), .int tk0, .int (nI a), .int en0, .int (nI v), .ref (r + 20), .int (si ||| (1 : Int32) <<< ((nI v &&& 15) &&& 31))])))
      rw [show tkn 2 j n0 S.1 v s a = (rnt s 2 a) from if_neg hG]
      exact h_rd
    · skip
      refine Ev.iconst (v := 1) rfl (by decide) ?_
      refine Ev.goto (tgt := 61) rfl (by decide) ?_
      refine Ev.istore rfl rfl rfl ?_
      refine Ev.iload_n rfl rfl ?_
      refine Ev.iconst (v := 1) rfl (by decide) ?_
      refine Ev.jeq (tgt := 77) rfl (by decide) (fun c65 => absurd c65 (by decide)) (fun c65 => ?_)
      refine Ev.iload_n rfl rfl ?_
      refine Ev.iconst (v := 2) rfl (by decide) ?_
      refine Ev.jne (tgt := 115) rfl (by decide) (fun c70 => absurd (by decide) c70) (fun c70 => ?_)
      refine Ev.iload_n rfl rfl ?_
      refine Ev.zne (tgt := 115) rfl (by decide) (fun c74 => ?_) (fun c74 => absurd (nI_injL (b := 0) (by omega) (by decide) c74) hg)
      refine Ev.iload_n rfl rfl ?_
      refine Ev.bipush (v := 7) rfl (by decide) ?_
      refine Ev.jne (tgt := 151) rfl (by decide) (fun c118 => ?_) (fun c118 => absurd c118 (by decide))
      refine Ev.iload rfl rfl ?_
      refine Ev.zne (tgt := 161) rfl (by decide) (fun c153 => ?_) (fun c153 => absurd c153 (by decide))
      refine Ev.aload_n rfl rfl ?_
      refine Ev.getf rfl rfl h_rd rfl ?_
      refine Ev.iload_n rfl rfl ?_
      refine Ev.aload_n rfl rfl ?_
      refine Ev.getf rfl rfl h_rd rfl ?_
      refine Ev.iastE (k := j) rfl h_nu rfl ⟨(by omega), by decide⟩ (fun τ7 f1 h_nu => ?_)
      have h_rd := frm.cell f1 h_rd (by omega)
      have kp : (∀ q, q ≠ r → q ≠ r + 20 → τ7.2 q = σ.2 q) := fun q n0 n1 => (f1.2 q (by omega)).trans (kp q n0 n1)
      have fr := fr.step f1 (by omega) (by omega)
      refine Ev.aload_n rfl rfl ?_
      refine Ev.dup rfl rfl ?_
      refine Ev.getf rfl rfl h_rd rfl ?_
      refine Ev.iconst (v := 1) rfl (by decide) ?_
      refine Ev.aload_n rfl rfl ?_
      refine Ev.getf rfl rfl h_rd rfl ?_
      refine Ev.bipush (v := 15) rfl (by decide) ?_
      refine Ev.iand rfl ?_
      refine Ev.ishl rfl ?_
      refine Ev.ior rfl ?_
      refine Ev.putE rfl rfl h_rd rfl rfl rfl (Nat.le_of_ble_eq_true rfl) (fun τ8 f1 h_rd => ?_)
      replace h_rd : τ8.2 r = some (.inr (.inr (5, [(.ref (r + 1)), (.ref (r + 12)), (.int (nI (Rf s))), (.int (Rp s)), (.ref b), (.int (nI n)), (.int tk0), (.int (nI a)), (.int en0), (.int (nI v)), (.ref (r + 20)), (.int (si ||| ((1 : Int32) <<< (((nI v) &&& (15 : Int32)) &&& 31))))]))) := h_rd
      have h_nu := frm.cell f1 h_nu (by omega)
      have kp : (∀ q, q ≠ r → q ≠ r + 20 → τ8.2 q = σ.2 q) := fun q n0 n1 => (f1.2 q (by omega)).trans (kp q n0 n1)
      have fr := fr.step f1 (by omega) (by omega)
      refine Ev.ret rfl rfl (Nat.le_refl _) (Nat.le_refl _) ?_
      have h1 : gl ≤ v := Nat.le_of_not_lt (fun h => c41 (nI_lt h (by omega)))
      have h2 : v ≤ gh := Nat.le_of_not_lt (fun h => c53 (nI_lt h (by omega)))
      have hG : gds 2 j n0 S.1 v = true := by
        unfold gds
        rw [if_neg (show ¬ (2 : Nat) = 1 by decide), if_neg (fun h => hg h.2), if_neg (fun h => absurd h.1 (by decide)), ← hgl, ← hgh, decide_eq_true h1, decide_eq_true h2]
        rfl
      rw [← hQ]
      refine ⟨rfl, fr, ?_, h_nu, kp⟩
      show τ8.2 r = some (.inr (.inr (5, [.ref (r + 1), .ref (r + 12), .int (nI (Rf (tkn 2 j n0 S.1 v s a))), .int (Rp (tkn 2 j n0 S.1 v s a)), .ref b, .int (nI n), .int tk0, .int (nI a), .int en0, .int (nI v), .ref (r + 20), .int (si ||| (1 : Int32) <<< ((nI v &&& 15) &&& 31))])))
      rw [show tkn 2 j n0 S.1 v s a = s from if_pos hG]
      exact h_rd
theorem tkN_g7 {j : Nat} {v n0 : Nat} {tk0 en0 si : Int32} (h_rd : σ.2 r = some (.inr (.inr (5, [.ref (r + 1), .ref (r + 12), .int (nI (Rf s)), .int (Rp s), .ref b, .int (nI n), .int tk0, .int (nI a), .int en0, .int (nI v), .ref (r + 20), .int si])))) {nu : Nat → Int32} (h_nu : σ.2 (r + 20) = some (.inl (0, 4, nu))) (hR : rdst Γ) (hS : isS σ (r + 1) S) (hn16 : S.1 ≤ 16) (hf4 : Rf s ≤ 4) (hv : v ≤ 999) (hb0 : n0 ≤ 999) (hj : j < 4) (hg : ¬ j = 1) : RetX Γ m_Reader_takeNumber [.ref r, .int 7, .int (nI j)] σ r (r + 21) none (fun τ => τ.2 r = some (.inr (.inr (5, [.ref (r + 1), .ref (r + 12), .int (nI (Rf (tkn 7 j n0 S.1 v s a))), .int (Rp (tkn 7 j n0 S.1 v s a)), .ref b, .int (nI n), .int tk0, .int (nI a), .int en0, .int (nI v), .ref (r + 20), .int (si ||| (1 : Int32) <<< ((nI v &&& 15) &&& 31))]))) ∧ τ.2 (r + 20) = some (.inl (0, 4, upd nu j (nI v))) ∧ ∀ q, q ≠ r → q ≠ r + 20 → τ.2 q = σ.2 q) := by
  obtain ⟨-, ⟨qhL, hL1, hL2⟩, ⟨qhH, hH1, hH2⟩⟩ := id hR
  obtain ⟨gl, hgl⟩ : ∃ q, q = LOl.getD (7 * 4 + j) 0 := ⟨_, rfl⟩
  obtain ⟨gh, hgh⟩ : ∃ q, q = HIl.getD (7 * 4 + j) 0 := ⟨_, rfl⟩
  have hLO : gl ≤ 999 := by rw [hgl]; exact LO_le _
  have hHI : gh ≤ 999 := by rw [hgh]; exact HI_le _
  obtain ⟨FL, hFL⟩ : ∃ F : Nat → Int32, F = (fun j => nI (LOl.getD j 0)) := ⟨_, rfl⟩
  obtain ⟨FH, hFH⟩ : ∃ F : Nat → Int32, F = (fun j => nI (HIl.getD j 0)) := ⟨_, rfl⟩
  have eFL : FL (7 * 4 + j) = nI gl := by rw [hFL, hgl]
  have eFH : FH (7 * 4 + j) = nI gh := by rw [hFH, hgh]
  rw [← hFL] at hL2
  rw [← hFH] at hH2
  obtain ⟨h0, h1, h2, h3, h4, h5, h6a, h7, h8, h9, h10⟩ := id hS
  unfold RetX
  generalize hQ : ((fun (r0 : Option Value) (τ : ex_S) => r0 = none ∧ frm σ τ r (r + 21) ∧ (fun τ : ex_S => τ.2 r = some (.inr (.inr (5, [.ref (r + 1), .ref (r + 12), .int (nI (Rf (tkn 7 j n0 S.1 v s a))), .int (Rp (tkn 7 j n0 S.1 v s a)), .ref b, .int (nI n), .int tk0, .int (nI a), .int en0, .int (nI v), .ref (r + 20), .int (si ||| (1 : Int32) <<< ((nI v &&& 15) &&& 31))]))) ∧ τ.2 (r + 20) = some (.inl (0, 4, upd nu j (nI v))) ∧ ∀ q, q ≠ r → q ≠ r + 20 → τ.2 q = σ.2 q) τ)) = Q
  refine Ret.start pm_121 rfl ?_
  have fr : frm σ σ r (r + 21) := frm.rf
  have kp : (∀ q, q ≠ r → q ≠ r + 20 → σ.2 q = σ.2 q) := fun _ _ _ => rfl
  refine Ev.iload_n rfl rfl ?_
  refine Ev.iconst (v := 4) rfl (by decide) ?_
  refine Ev.imul rfl ?_
  refine Ev.iload_n rfl rfl ?_
  refine Ev.iadd rfl ?_
  rw [show ((7 : Int32) * (4 : Int32)) + (nI j) = nI (7 * 4 + j) from (nq_add (a := 7 * 4) (b := j) (nq_mul (a := 7) (b := 4) (rfl : (7 : Int32) = nI 7) (rfl : (4 : Int32) = nI 4)) rfl)]
  refine Ev.istore_n rfl rfl rfl ?_
  refine Ev.iload_n rfl rfl ?_
  refine Ev.zlt (tgt := 31) rfl (by decide) (fun c7 => absurd c7 (nI_pos (by omega))) (fun c7 => ?_)
  refine Ev.iload_n rfl rfl ?_
  refine Ev.iconst (v := 4) rfl (by decide) ?_
  refine Ev.jge (tgt := 31) rfl (by decide) (fun c12 => absurd (nI_lt (a := j) (b := 4) (by omega) (by decide)) c12) (fun c12 => ?_)
  refine Ev.iload_n rfl rfl ?_
  refine Ev.gets (g := 2) rfl rfl ?_
  rw [hL1]
  refine Ev.alenS rfl hL2 rfl ?_
  refine Ev.jge (tgt := 31) rfl (by decide) (fun c20 => absurd (nI_lt (a := 7 * 4 + j) (b := 84) (by omega) (by decide)) c20) (fun c20 => ?_)
  refine Ev.iload_n rfl rfl ?_
  refine Ev.gets (g := 3) rfl rfl ?_
  rw [hH1]
  refine Ev.alenS rfl hH2 rfl ?_
  refine Ev.jlt (tgt := 32) rfl (by decide) (fun c28 => ?_) (fun c28 => absurd (nI_lt (a := 7 * 4 + j) (b := 84) (by omega) (by decide)) c28)
  refine Ev.aload_n rfl rfl ?_
  refine Ev.getf rfl rfl h_rd rfl ?_
  refine Ev.gets (g := 2) rfl rfl ?_
  rw [hL1]
  refine Ev.iload_n rfl rfl ?_
  refine Ev.ialdSN (k := 7 * 4 + j) rfl hL2 rfl ⟨(by omega), by decide⟩ ?_
  rw [show FL (7 * 4 + j) = nI gl from eFL]
  refine Ev.jlt (tgt := 60) rfl (by decide) (fun c41 => ?_) (fun c41 => ?_)
  · skip
    refine Ev.iconst (v := 0) rfl (by decide) ?_
    refine Ev.istore rfl rfl rfl ?_
    refine Ev.iload_n rfl rfl ?_
    refine Ev.iconst (v := 1) rfl (by decide) ?_
    refine Ev.jeq (tgt := 77) rfl (by decide) (fun c65 => absurd c65 (by decide)) (fun c65 => ?_)
    refine Ev.iload_n rfl rfl ?_
    refine Ev.iconst (v := 2) rfl (by decide) ?_
    refine Ev.jne (tgt := 115) rfl (by decide) (fun c70 => ?_) (fun c70 => absurd c70 (by decide))
    refine Ev.iload_n rfl rfl ?_
    refine Ev.bipush (v := 7) rfl (by decide) ?_
    refine Ev.jne (tgt := 151) rfl (by decide) (fun c118 => absurd (by decide) c118) (fun c118 => ?_)
    refine Ev.iload_n rfl rfl ?_
    refine Ev.iconst (v := 1) rfl (by decide) ?_
    refine Ev.jne (tgt := 151) rfl (by decide) (fun c123 => ?_) (fun c123 => absurd (nI_injL (b := 1) (by omega) (by decide) c123) hg)
    refine Ev.iload rfl rfl ?_
    refine Ev.zne (tgt := 161) rfl (by decide) (fun c153 => absurd (by decide) c153) (fun c153 => ?_)
    refine Ev.aload_n rfl rfl ?_
    refine Ev.iconst (v := 2) rfl (by decide) ?_
    refine Ev.xV1u rfl rfl h_rd rfl rfl (by decide) ⟨(Nat.le_refl _), (Nat.le_refl _)⟩ (note_ok (k := 2) h_rd hf4 (by decide)) (fun τ501 f9 h_rd => ?_)
    have h_nu := frm.cell f9 h_nu (by omega)
    have kp := fun q n0 n1 => (f9.2 q (by omega)).trans (kp q n0 n1)
    have fr := fr.step f9 (by omega) (by omega)
    refine Ev.aload_n rfl rfl ?_
    refine Ev.getf rfl rfl h_rd rfl ?_
    refine Ev.iload_n rfl rfl ?_
    refine Ev.aload_n rfl rfl ?_
    refine Ev.getf rfl rfl h_rd rfl ?_
    refine Ev.iastE (k := j) rfl h_nu rfl ⟨(by omega), by decide⟩ (fun τ2 f1 h_nu => ?_)
    have h_rd := frm.cell f1 h_rd (by omega)
    have kp : (∀ q, q ≠ r → q ≠ r + 20 → τ2.2 q = σ.2 q) := fun q n0 n1 => (f1.2 q (by omega)).trans (kp q n0 n1)
    have fr := fr.step f1 (by omega) (by omega)
    refine Ev.aload_n rfl rfl ?_
    refine Ev.dup rfl rfl ?_
    refine Ev.getf rfl rfl h_rd rfl ?_
    refine Ev.iconst (v := 1) rfl (by decide) ?_
    refine Ev.aload_n rfl rfl ?_
    refine Ev.getf rfl rfl h_rd rfl ?_
    refine Ev.bipush (v := 15) rfl (by decide) ?_
    refine Ev.iand rfl ?_
    refine Ev.ishl rfl ?_
    refine Ev.ior rfl ?_
    refine Ev.putE rfl rfl h_rd rfl rfl rfl (Nat.le_of_ble_eq_true rfl) (fun τ3 f1 h_rd => ?_)
    replace h_rd : τ3.2 r = some (.inr (.inr (5, [(.ref (r + 1)), (.ref (r + 12)), (.int (nI (Rf (rnt s 2 a)))), (.int (Rp (rnt s 2 a))), (.ref b), (.int (nI n)), (.int tk0), (.int (nI a)), (.int en0), (.int (nI v)), (.ref (r + 20)), (.int (si ||| ((1 : Int32) <<< (((nI v) &&& (15 : Int32)) &&& 31))))]))) := h_rd
    have h_nu := frm.cell f1 h_nu (by omega)
    have kp : (∀ q, q ≠ r → q ≠ r + 20 → τ3.2 q = σ.2 q) := fun q n0 n1 => (f1.2 q (by omega)).trans (kp q n0 n1)
    have fr := fr.step f1 (by omega) (by omega)
    refine Ev.ret rfl rfl (Nat.le_refl _) (Nat.le_refl _) ?_
    have h1 : v < gl := (nI_ltI (by omega) (by omega)).mp c41
    have hG : ¬ gds 7 j n0 S.1 v = true := by
      unfold gds
      rw [if_neg (show ¬ (7 : Nat) = 1 by decide), if_neg (fun h => absurd h.1 (by decide)), if_neg (fun h => hg h.2), ← hgl, ← hgh, decide_eq_false (Nat.not_le.mpr h1)]
      exact fun h => (nomatch h)
    rw [← hQ]
    refine ⟨rfl, fr, ?_, h_nu, kp⟩
    show τ3.2 r = some (.inr (.inr (5, [.ref (r + 1), .ref (r + 12), .int (nI (Rf (tkn 7 j n0 S.1 v s a))), .int (Rp (tkn 7 j n0 S.1 v s a)), .ref b, .int (nI n), .int tk0, .int (nI a), .int en0, .int (nI v), .ref (r + 20), .int (si ||| (1 : Int32) <<< ((nI v &&& 15) &&& 31))])))
    rw [show tkn 7 j n0 S.1 v s a = (rnt s 2 a) from if_neg hG]
    exact h_rd
  · skip
    refine Ev.aload_n rfl rfl ?_
    refine Ev.getf rfl rfl h_rd rfl ?_
    refine Ev.gets (g := 3) rfl rfl ?_
    rw [hH1]
    refine Ev.iload_n rfl rfl ?_
    refine Ev.ialdSN (k := 7 * 4 + j) rfl hH2 rfl ⟨(by omega), by decide⟩ ?_
    rw [show FH (7 * 4 + j) = nI gh from eFH]
    refine Ev.jgt (tgt := 60) rfl (by decide) (fun c53 => ?_) (fun c53 => ?_)
    · skip
      refine Ev.iconst (v := 0) rfl (by decide) ?_
      refine Ev.istore rfl rfl rfl ?_
      refine Ev.iload_n rfl rfl ?_
      refine Ev.iconst (v := 1) rfl (by decide) ?_
      refine Ev.jeq (tgt := 77) rfl (by decide) (fun c65 => absurd c65 (by decide)) (fun c65 => ?_)
      refine Ev.iload_n rfl rfl ?_
      refine Ev.iconst (v := 2) rfl (by decide) ?_
      refine Ev.jne (tgt := 115) rfl (by decide) (fun c70 => ?_) (fun c70 => absurd c70 (by decide))
      refine Ev.iload_n rfl rfl ?_
      refine Ev.bipush (v := 7) rfl (by decide) ?_
      refine Ev.jne (tgt := 151) rfl (by decide) (fun c118 => absurd (by decide) c118) (fun c118 => ?_)
      refine Ev.iload_n rfl rfl ?_
      refine Ev.iconst (v := 1) rfl (by decide) ?_
      refine Ev.jne (tgt := 151) rfl (by decide) (fun c123 => ?_) (fun c123 => absurd (nI_injL (b := 1) (by omega) (by decide) c123) hg)
      refine Ev.iload rfl rfl ?_
      refine Ev.zne (tgt := 161) rfl (by decide) (fun c153 => absurd (by decide) c153) (fun c153 => ?_)
      refine Ev.aload_n rfl rfl ?_
      refine Ev.iconst (v := 2) rfl (by decide) ?_
      refine Ev.xV1u rfl rfl h_rd rfl rfl (by decide) ⟨(Nat.le_refl _), (Nat.le_refl _)⟩ (note_ok (k := 2) h_rd hf4 (by decide)) (fun τ504 f9 h_rd => ?_)
      have h_nu := frm.cell f9 h_nu (by omega)
      have kp := fun q n0 n1 => (f9.2 q (by omega)).trans (kp q n0 n1)
      have fr := fr.step f9 (by omega) (by omega)
      refine Ev.aload_n rfl rfl ?_
      refine Ev.getf rfl rfl h_rd rfl ?_
      refine Ev.iload_n rfl rfl ?_
      refine Ev.aload_n rfl rfl ?_
      refine Ev.getf rfl rfl h_rd rfl ?_
      refine Ev.iastE (k := j) rfl h_nu rfl ⟨(by omega), by decide⟩ (fun τ5 f1 h_nu => ?_)
      have h_rd := frm.cell f1 h_rd (by omega)
      have kp : (∀ q, q ≠ r → q ≠ r + 20 → τ5.2 q = σ.2 q) := fun q n0 n1 => (f1.2 q (by omega)).trans (kp q n0 n1)
      have fr := fr.step f1 (by omega) (by omega)
      refine Ev.aload_n rfl rfl ?_
      refine Ev.dup rfl rfl ?_
      refine Ev.getf rfl rfl h_rd rfl ?_
      refine Ev.iconst (v := 1) rfl (by decide) ?_
      refine Ev.aload_n rfl rfl ?_
      refine Ev.getf rfl rfl h_rd rfl ?_
      refine Ev.bipush (v := 15) rfl (by decide) ?_
      refine Ev.iand rfl ?_
      refine Ev.ishl rfl ?_
      refine Ev.ior rfl ?_
      refine Ev.putE rfl rfl h_rd rfl rfl rfl (Nat.le_of_ble_eq_true rfl) (fun τ6 f1 h_rd => ?_)
      replace h_rd : τ6.2 r = some (.inr (.inr (5, [(.ref (r + 1)), (.ref (r + 12)), (.int (nI (Rf (rnt s 2 a)))), (.int (Rp (rnt s 2 a))), (.ref b), (.int (nI n)), (.int tk0), (.int (nI a)), (.int en0), (.int (nI v)), (.ref (r + 20)), (.int (si ||| ((1 : Int32) <<< (((nI v) &&& (15 : Int32)) &&& 31))))]))) := h_rd
      have h_nu := frm.cell f1 h_nu (by omega)
      have kp : (∀ q, q ≠ r → q ≠ r + 20 → τ6.2 q = σ.2 q) := fun q n0 n1 => (f1.2 q (by omega)).trans (kp q n0 n1)
      have fr := fr.step f1 (by omega) (by omega)
      refine Ev.ret rfl rfl (Nat.le_refl _) (Nat.le_refl _) ?_
      have h1 : gh < v := (nI_ltI (by omega) (by omega)).mp c53
      have hG : ¬ gds 7 j n0 S.1 v = true := by
        unfold gds
        rw [if_neg (show ¬ (7 : Nat) = 1 by decide), if_neg (fun h => absurd h.1 (by decide)), if_neg (fun h => hg h.2), ← hgl, ← hgh, decide_eq_false (Nat.not_le.mpr h1), Bool.and_false]
        exact fun h => (nomatch h)
      rw [← hQ]
      refine ⟨rfl, fr, ?_, h_nu, kp⟩
      show τ6.2 r = some (.inr (.inr (5, [.ref (r + 1), .ref (r + 12), .int (nI (Rf (tkn 7 j n0 S.1 v s a))), .int (Rp (tkn 7 j n0 S.1 v s a)), .ref b, .int (nI n), .int tk0, .int (nI a), .int en0, .int (nI v), .ref (r + 20), .int (si ||| (1 : Int32) <<< ((nI v &&& 15) &&& 31))])))
      rw [show tkn 7 j n0 S.1 v s a = (rnt s 2 a) from if_neg hG]
      exact h_rd
    · skip
      refine Ev.iconst (v := 1) rfl (by decide) ?_
      refine Ev.goto (tgt := 61) rfl (by decide) ?_
      refine Ev.istore rfl rfl rfl ?_
      refine Ev.iload_n rfl rfl ?_
      refine Ev.iconst (v := 1) rfl (by decide) ?_
      refine Ev.jeq (tgt := 77) rfl (by decide) (fun c65 => absurd c65 (by decide)) (fun c65 => ?_)
      refine Ev.iload_n rfl rfl ?_
      refine Ev.iconst (v := 2) rfl (by decide) ?_
      refine Ev.jne (tgt := 115) rfl (by decide) (fun c70 => ?_) (fun c70 => absurd c70 (by decide))
      refine Ev.iload_n rfl rfl ?_
      refine Ev.bipush (v := 7) rfl (by decide) ?_
      refine Ev.jne (tgt := 151) rfl (by decide) (fun c118 => absurd (by decide) c118) (fun c118 => ?_)
      refine Ev.iload_n rfl rfl ?_
      refine Ev.iconst (v := 1) rfl (by decide) ?_
      refine Ev.jne (tgt := 151) rfl (by decide) (fun c123 => ?_) (fun c123 => absurd (nI_injL (b := 1) (by omega) (by decide) c123) hg)
      refine Ev.iload rfl rfl ?_
      refine Ev.zne (tgt := 161) rfl (by decide) (fun c153 => ?_) (fun c153 => absurd c153 (by decide))
      refine Ev.aload_n rfl rfl ?_
      refine Ev.getf rfl rfl h_rd rfl ?_
      refine Ev.iload_n rfl rfl ?_
      refine Ev.aload_n rfl rfl ?_
      refine Ev.getf rfl rfl h_rd rfl ?_
      refine Ev.iastE (k := j) rfl h_nu rfl ⟨(by omega), by decide⟩ (fun τ7 f1 h_nu => ?_)
      have h_rd := frm.cell f1 h_rd (by omega)
      have kp : (∀ q, q ≠ r → q ≠ r + 20 → τ7.2 q = σ.2 q) := fun q n0 n1 => (f1.2 q (by omega)).trans (kp q n0 n1)
      have fr := fr.step f1 (by omega) (by omega)
      refine Ev.aload_n rfl rfl ?_
      refine Ev.dup rfl rfl ?_
      refine Ev.getf rfl rfl h_rd rfl ?_
      refine Ev.iconst (v := 1) rfl (by decide) ?_
      refine Ev.aload_n rfl rfl ?_
      refine Ev.getf rfl rfl h_rd rfl ?_
      refine Ev.bipush (v := 15) rfl (by decide) ?_
      refine Ev.iand rfl ?_
      refine Ev.ishl rfl ?_
      refine Ev.ior rfl ?_
      refine Ev.putE rfl rfl h_rd rfl rfl rfl (Nat.le_of_ble_eq_true rfl) (fun τ8 f1 h_rd => ?_)
      replace h_rd : τ8.2 r = some (.inr (.inr (5, [(.ref (r + 1)), (.ref (r + 12)), (.int (nI (Rf s))), (.int (Rp s)), (.ref b), (.int (nI n)), (.int tk0), (.int (nI a)), (.int en0), (.int (nI v)), (.ref (r + 20)), (.int (si ||| ((1 : Int32) <<< (((nI v) &&& (15 : Int32)) &&& 31))))]))) := h_rd
      have h_nu := frm.cell f1 h_nu (by omega)
      have kp : (∀ q, q ≠ r → q ≠ r + 20 → τ8.2 q = σ.2 q) := fun q n0 n1 => (f1.2 q (by omega)).trans (kp q n0 n1)
      have fr := fr.step f1 (by omega) (by omega)
      refine Ev.ret rfl rfl (Nat.le_refl _) (Nat.le_refl _) ?_
      have h1 : gl ≤ v := Nat.le_of_not_lt (fun h => c41 (nI_lt h (by omega)))
      have h2 : v ≤ gh := Nat.le_of_not_lt (fun h => c53 (nI_lt h (by omega)))
      have hG : gds 7 j n0 S.1 v = true := by
        unfold gds
        rw [if_neg (show ¬ (7 : Nat) = 1 by decide), if_neg (fun h => absurd h.1 (by decide)), if_neg (fun h => hg h.2), ← hgl, ← hgh, decide_eq_true h1, decide_eq_true h2]
        rfl
      rw [← hQ]
      refine ⟨rfl, fr, ?_, h_nu, kp⟩
      show τ8.2 r = some (.inr (.inr (5, [.ref (r + 1), .ref (r + 12), .int (nI (Rf (tkn 7 j n0 S.1 v s a))), .int (Rp (tkn 7 j n0 S.1 v s a)), .ref b, .int (nI n), .int tk0, .int (nI a), .int en0, .int (nI v), .ref (r + 20), .int (si ||| (1 : Int32) <<< ((nI v &&& 15) &&& 31))])))
      rw [show tkn 7 j n0 S.1 v s a = s from if_pos hG]
      exact h_rd
theorem tkN_10  {v n0 : Nat} {tk0 en0 si : Int32} (h_rd : σ.2 r = some (.inr (.inr (5, [.ref (r + 1), .ref (r + 12), .int (nI (Rf s)), .int (Rp s), .ref b, .int (nI n), .int tk0, .int (nI a), .int en0, .int (nI v), .ref (r + 20), .int si])))) {nu : Nat → Int32} (h_nu : σ.2 (r + 20) = some (.inl (0, 4, nu))) (hR : rdst Γ) (hS : isS σ (r + 1) S) (hn16 : S.1 ≤ 16) (hf4 : Rf s ≤ 4) (hv : v ≤ 999) (hb0 : n0 ≤ 999)  : RetX Γ m_Reader_takeNumber [.ref r, .int 1, .int 0] σ r (r + 21) none (fun τ => τ.2 r = some (.inr (.inr (5, [.ref (r + 1), .ref (r + 12), .int (nI (Rf (tkn 1 0 n0 S.1 v s a))), .int (Rp (tkn 1 0 n0 S.1 v s a)), .ref b, .int (nI n), .int tk0, .int (nI a), .int en0, .int (nI v), .ref (r + 20), .int (si ||| (1 : Int32) <<< ((nI v &&& 15) &&& 31))]))) ∧ τ.2 (r + 20) = some (.inl (0, 4, upd nu 0 (nI v))) ∧ ∀ q, q ≠ r → q ≠ r + 20 → τ.2 q = σ.2 q) := by
  obtain ⟨-, ⟨qhL, hL1, hL2⟩, ⟨qhH, hH1, hH2⟩⟩ := id hR
  obtain ⟨h0, h1, h2, h3, h4, h5, h6a, h7, h8, h9, h10⟩ := id hS
  unfold RetX
  generalize hQ : ((fun (r0 : Option Value) (τ : ex_S) => r0 = none ∧ frm σ τ r (r + 21) ∧ (fun τ : ex_S => τ.2 r = some (.inr (.inr (5, [.ref (r + 1), .ref (r + 12), .int (nI (Rf (tkn 1 0 n0 S.1 v s a))), .int (Rp (tkn 1 0 n0 S.1 v s a)), .ref b, .int (nI n), .int tk0, .int (nI a), .int en0, .int (nI v), .ref (r + 20), .int (si ||| (1 : Int32) <<< ((nI v &&& 15) &&& 31))]))) ∧ τ.2 (r + 20) = some (.inl (0, 4, upd nu 0 (nI v))) ∧ ∀ q, q ≠ r → q ≠ r + 20 → τ.2 q = σ.2 q) τ)) = Q
  refine Ret.start pm_121 rfl ?_
  have fr : frm σ σ r (r + 21) := frm.rf
  have kp : (∀ q, q ≠ r → q ≠ r + 20 → σ.2 q = σ.2 q) := fun _ _ _ => rfl
  refine Ev.iload_n rfl rfl ?_
  refine Ev.iconst (v := 4) rfl (by decide) ?_
  refine Ev.imul rfl ?_
  refine Ev.iload_n rfl rfl ?_
  refine Ev.iadd rfl ?_
  refine Ev.istore_n rfl rfl rfl ?_
  refine Ev.iload_n rfl rfl ?_
  refine Ev.zlt (tgt := 31) rfl (by decide) (fun c7 => absurd c7 (by decide)) (fun c7 => ?_)
  refine Ev.iload_n rfl rfl ?_
  refine Ev.iconst (v := 4) rfl (by decide) ?_
  refine Ev.jge (tgt := 31) rfl (by decide) (fun c12 => absurd (by decide) c12) (fun c12 => ?_)
  refine Ev.iload_n rfl rfl ?_
  refine Ev.gets (g := 2) rfl rfl ?_
  rw [hL1]
  refine Ev.alenS rfl hL2 rfl ?_
  refine Ev.jge (tgt := 31) rfl (by decide) (fun c20 => absurd (by decide) c20) (fun c20 => ?_)
  refine Ev.iload_n rfl rfl ?_
  refine Ev.gets (g := 3) rfl rfl ?_
  rw [hH1]
  refine Ev.alenS rfl hH2 rfl ?_
  refine Ev.jlt (tgt := 32) rfl (by decide) (fun c28 => ?_) (fun c28 => absurd (by decide) c28)
  refine Ev.aload_n rfl rfl ?_
  refine Ev.getf rfl rfl h_rd rfl ?_
  refine Ev.gets (g := 2) rfl rfl ?_
  rw [hL1]
  refine Ev.iload_n rfl rfl ?_
  refine Ev.ialdSN (k := 1 * 4 + 0) rfl hL2 (nq_add (a := 1 * 4) (b := 0) (nq_mul (a := 1) (b := 4) (rfl : (1 : Int32) = nI 1) (rfl : (4 : Int32) = nI 4)) (rfl : (0 : Int32) = nI 0)) ⟨(by omega), by decide⟩ ?_
  refine Ev.jlt (tgt := 60) rfl (by decide) (fun c41 => ?_) (fun c41 => ?_)
  · skip
    refine Ev.iconst (v := 0) rfl (by decide) ?_
    refine Ev.istore rfl rfl rfl ?_
    refine Ev.iload_n rfl rfl ?_
    refine Ev.iconst (v := 1) rfl (by decide) ?_
    refine Ev.jeq (tgt := 77) rfl (by decide) (fun c65 => ?_) (fun c65 => absurd (by decide) c65)
    by_cases hvL : v < S.1
    · skip
      refine Ev.aload_n rfl rfl ?_
      refine Ev.getf rfl rfl h_rd rfl ?_
      refine Ev.aload_n rfl rfl ?_
      refine Ev.getf rfl rfl h_rd rfl ?_
      refine Ev.cV1 rfl rfl h0 rfl rfl (by decide) ⟨(Nat.le_refl _), (Nat.le_refl _)⟩ (has_ok hS (nI v)) ?_
      rw [has_yes hvL hn16]
      refine Ev.zeq (tgt := 112) rfl (by decide) (fun c88 => absurd c88 (by decide)) (fun c88 => ?_)
      refine Ev.iload_n rfl rfl ?_
      refine Ev.zeq (tgt := 108) rfl (by decide) (fun c92 => ?_) (fun c92 => absurd (by decide) c92)
      refine Ev.iconst (v := 1) rfl (by decide) ?_
      refine Ev.goto (tgt := 113) rfl (by decide) ?_
      refine Ev.istore rfl rfl rfl ?_
      refine Ev.iload_n rfl rfl ?_
      refine Ev.bipush (v := 7) rfl (by decide) ?_
      refine Ev.jne (tgt := 151) rfl (by decide) (fun c118 => ?_) (fun c118 => absurd c118 (by decide))
      refine Ev.iload rfl rfl ?_
      refine Ev.zne (tgt := 161) rfl (by decide) (fun c153 => ?_) (fun c153 => absurd c153 (by decide))
      refine Ev.aload_n rfl rfl ?_
      refine Ev.getf rfl rfl h_rd rfl ?_
      refine Ev.iload_n rfl rfl ?_
      refine Ev.aload_n rfl rfl ?_
      refine Ev.getf rfl rfl h_rd rfl ?_
      refine Ev.iastE (k := 0) rfl h_nu (rfl : (0 : Int32) = nI 0) ⟨(by omega), by decide⟩ (fun τ1 f1 h_nu => ?_)
      have h_rd := frm.cell f1 h_rd (by omega)
      have kp : (∀ q, q ≠ r → q ≠ r + 20 → τ1.2 q = σ.2 q) := fun q n0 n1 => (f1.2 q (by omega)).trans (kp q n0 n1)
      have fr := fr.step f1 (by omega) (by omega)
      refine Ev.aload_n rfl rfl ?_
      refine Ev.dup rfl rfl ?_
      refine Ev.getf rfl rfl h_rd rfl ?_
      refine Ev.iconst (v := 1) rfl (by decide) ?_
      refine Ev.aload_n rfl rfl ?_
      refine Ev.getf rfl rfl h_rd rfl ?_
      refine Ev.bipush (v := 15) rfl (by decide) ?_
      refine Ev.iand rfl ?_
      refine Ev.ishl rfl ?_
      refine Ev.ior rfl ?_
      refine Ev.putE rfl rfl h_rd rfl rfl rfl (Nat.le_of_ble_eq_true rfl) (fun τ2 f1 h_rd => ?_)
      replace h_rd : τ2.2 r = some (.inr (.inr (5, [(.ref (r + 1)), (.ref (r + 12)), (.int (nI (Rf s))), (.int (Rp s)), (.ref b), (.int (nI n)), (.int tk0), (.int (nI a)), (.int en0), (.int (nI v)), (.ref (r + 20)), (.int (si ||| ((1 : Int32) <<< (((nI v) &&& (15 : Int32)) &&& 31))))]))) := h_rd
      have h_nu := frm.cell f1 h_nu (by omega)
      have kp : (∀ q, q ≠ r → q ≠ r + 20 → τ2.2 q = σ.2 q) := fun q n0 n1 => (f1.2 q (by omega)).trans (kp q n0 n1)
      have fr := fr.step f1 (by omega) (by omega)
      refine Ev.ret rfl rfl (Nat.le_refl _) (Nat.le_refl _) ?_
      have hLO := LO_le (1 * 4 + 0)
      have hHI := HI_le (1 * 4 + 0)
      have hG : gds 1 0 n0 S.1 v = true := by
        show ((decide (v < S.1) && (decide (0 = 0) || !decide (v = n0)))) = true
        simp [hvL]
      rw [← hQ]
      refine ⟨rfl, fr, ?_, h_nu, kp⟩
      show τ2.2 r = some (.inr (.inr (5, [.ref (r + 1), .ref (r + 12), .int (nI (Rf (tkn 1 0 n0 S.1 v s a))), .int (Rp (tkn 1 0 n0 S.1 v s a)), .ref b, .int (nI n), .int tk0, .int (nI a), .int en0, .int (nI v), .ref (r + 20), .int (si ||| (1 : Int32) <<< ((nI v &&& 15) &&& 31))])))
      rw [show tkn 1 0 n0 S.1 v s a = s from if_pos hG]
      exact h_rd
    · skip
      refine Ev.aload_n rfl rfl ?_
      refine Ev.getf rfl rfl h_rd rfl ?_
      refine Ev.aload_n rfl rfl ?_
      refine Ev.getf rfl rfl h_rd rfl ?_
      refine Ev.cV1 rfl rfl h0 rfl rfl (by decide) ⟨(Nat.le_refl _), (Nat.le_refl _)⟩ (has_ok hS (nI v)) ?_
      rw [has_no (Or.inr (nI_le (Nat.le_of_not_lt hvL) (by omega)))]
      refine Ev.zeq (tgt := 112) rfl (by decide) (fun c88 => ?_) (fun c88 => absurd (by decide) c88)
      refine Ev.iconst (v := 0) rfl (by decide) ?_
      refine Ev.istore rfl rfl rfl ?_
      refine Ev.iload_n rfl rfl ?_
      refine Ev.bipush (v := 7) rfl (by decide) ?_
      refine Ev.jne (tgt := 151) rfl (by decide) (fun c118 => ?_) (fun c118 => absurd c118 (by decide))
      refine Ev.iload rfl rfl ?_
      refine Ev.zne (tgt := 161) rfl (by decide) (fun c153 => absurd (by decide) c153) (fun c153 => ?_)
      refine Ev.aload_n rfl rfl ?_
      refine Ev.iconst (v := 2) rfl (by decide) ?_
      refine Ev.xV1u rfl rfl h_rd rfl rfl (by decide) ⟨(Nat.le_refl _), (Nat.le_refl _)⟩ (note_ok (k := 2) h_rd hf4 (by decide)) (fun τ503 f9 h_rd => ?_)
      have h_nu := frm.cell f9 h_nu (by omega)
      have kp := fun q n0 n1 => (f9.2 q (by omega)).trans (kp q n0 n1)
      have fr := fr.step f9 (by omega) (by omega)
      refine Ev.aload_n rfl rfl ?_
      refine Ev.getf rfl rfl h_rd rfl ?_
      refine Ev.iload_n rfl rfl ?_
      refine Ev.aload_n rfl rfl ?_
      refine Ev.getf rfl rfl h_rd rfl ?_
      refine Ev.iastE (k := 0) rfl h_nu (rfl : (0 : Int32) = nI 0) ⟨(by omega), by decide⟩ (fun τ4 f1 h_nu => ?_)
      have h_rd := frm.cell f1 h_rd (by omega)
      have kp : (∀ q, q ≠ r → q ≠ r + 20 → τ4.2 q = σ.2 q) := fun q n0 n1 => (f1.2 q (by omega)).trans (kp q n0 n1)
      have fr := fr.step f1 (by omega) (by omega)
      refine Ev.aload_n rfl rfl ?_
      refine Ev.dup rfl rfl ?_
      refine Ev.getf rfl rfl h_rd rfl ?_
      refine Ev.iconst (v := 1) rfl (by decide) ?_
      refine Ev.aload_n rfl rfl ?_
      refine Ev.getf rfl rfl h_rd rfl ?_
      refine Ev.bipush (v := 15) rfl (by decide) ?_
      refine Ev.iand rfl ?_
      refine Ev.ishl rfl ?_
      refine Ev.ior rfl ?_
      refine Ev.putE rfl rfl h_rd rfl rfl rfl (Nat.le_of_ble_eq_true rfl) (fun τ5 f1 h_rd => ?_)
      replace h_rd : τ5.2 r = some (.inr (.inr (5, [(.ref (r + 1)), (.ref (r + 12)), (.int (nI (Rf (rnt s 2 a)))), (.int (Rp (rnt s 2 a))), (.ref b), (.int (nI n)), (.int tk0), (.int (nI a)), (.int en0), (.int (nI v)), (.ref (r + 20)), (.int (si ||| ((1 : Int32) <<< (((nI v) &&& (15 : Int32)) &&& 31))))]))) := h_rd
      have h_nu := frm.cell f1 h_nu (by omega)
      have kp : (∀ q, q ≠ r → q ≠ r + 20 → τ5.2 q = σ.2 q) := fun q n0 n1 => (f1.2 q (by omega)).trans (kp q n0 n1)
      have fr := fr.step f1 (by omega) (by omega)
      refine Ev.ret rfl rfl (Nat.le_refl _) (Nat.le_refl _) ?_
      have hLO := LO_le (1 * 4 + 0)
      have hHI := HI_le (1 * 4 + 0)
      have hG : ¬ gds 1 0 n0 S.1 v = true := by
        show ¬ ((decide (v < S.1) && (decide (0 = 0) || !decide (v = n0)))) = true
        simp [hvL]
      rw [← hQ]
      refine ⟨rfl, fr, ?_, h_nu, kp⟩
      show τ5.2 r = some (.inr (.inr (5, [.ref (r + 1), .ref (r + 12), .int (nI (Rf (tkn 1 0 n0 S.1 v s a))), .int (Rp (tkn 1 0 n0 S.1 v s a)), .ref b, .int (nI n), .int tk0, .int (nI a), .int en0, .int (nI v), .ref (r + 20), .int (si ||| (1 : Int32) <<< ((nI v &&& 15) &&& 31))])))
      rw [show tkn 1 0 n0 S.1 v s a = (rnt s 2 a) from if_neg hG]
      exact h_rd
  · skip
    refine Ev.aload_n rfl rfl ?_
    refine Ev.getf rfl rfl h_rd rfl ?_
    refine Ev.gets (g := 3) rfl rfl ?_
    rw [hH1]
    refine Ev.iload_n rfl rfl ?_
    refine Ev.ialdSN (k := 1 * 4 + 0) rfl hH2 (nq_add (a := 1 * 4) (b := 0) (nq_mul (a := 1) (b := 4) (rfl : (1 : Int32) = nI 1) (rfl : (4 : Int32) = nI 4)) (rfl : (0 : Int32) = nI 0)) ⟨(by omega), by decide⟩ ?_
    refine Ev.jgt (tgt := 60) rfl (by decide) (fun c53 => ?_) (fun c53 => ?_)
    · skip
      refine Ev.iconst (v := 0) rfl (by decide) ?_
      refine Ev.istore rfl rfl rfl ?_
      refine Ev.iload_n rfl rfl ?_
      refine Ev.iconst (v := 1) rfl (by decide) ?_
      refine Ev.jeq (tgt := 77) rfl (by decide) (fun c65 => ?_) (fun c65 => absurd (by decide) c65)
      by_cases hvL : v < S.1
      · skip
        refine Ev.aload_n rfl rfl ?_
        refine Ev.getf rfl rfl h_rd rfl ?_
        refine Ev.aload_n rfl rfl ?_
        refine Ev.getf rfl rfl h_rd rfl ?_
        refine Ev.cV1 rfl rfl h0 rfl rfl (by decide) ⟨(Nat.le_refl _), (Nat.le_refl _)⟩ (has_ok hS (nI v)) ?_
        rw [has_yes hvL hn16]
        refine Ev.zeq (tgt := 112) rfl (by decide) (fun c88 => absurd c88 (by decide)) (fun c88 => ?_)
        refine Ev.iload_n rfl rfl ?_
        refine Ev.zeq (tgt := 108) rfl (by decide) (fun c92 => ?_) (fun c92 => absurd (by decide) c92)
        refine Ev.iconst (v := 1) rfl (by decide) ?_
        refine Ev.goto (tgt := 113) rfl (by decide) ?_
        refine Ev.istore rfl rfl rfl ?_
        refine Ev.iload_n rfl rfl ?_
        refine Ev.bipush (v := 7) rfl (by decide) ?_
        refine Ev.jne (tgt := 151) rfl (by decide) (fun c118 => ?_) (fun c118 => absurd c118 (by decide))
        refine Ev.iload rfl rfl ?_
        refine Ev.zne (tgt := 161) rfl (by decide) (fun c153 => ?_) (fun c153 => absurd c153 (by decide))
        refine Ev.aload_n rfl rfl ?_
        refine Ev.getf rfl rfl h_rd rfl ?_
        refine Ev.iload_n rfl rfl ?_
        refine Ev.aload_n rfl rfl ?_
        refine Ev.getf rfl rfl h_rd rfl ?_
        refine Ev.iastE (k := 0) rfl h_nu (rfl : (0 : Int32) = nI 0) ⟨(by omega), by decide⟩ (fun τ6 f1 h_nu => ?_)
        have h_rd := frm.cell f1 h_rd (by omega)
        have kp : (∀ q, q ≠ r → q ≠ r + 20 → τ6.2 q = σ.2 q) := fun q n0 n1 => (f1.2 q (by omega)).trans (kp q n0 n1)
        have fr := fr.step f1 (by omega) (by omega)
        refine Ev.aload_n rfl rfl ?_
        refine Ev.dup rfl rfl ?_
        refine Ev.getf rfl rfl h_rd rfl ?_
        refine Ev.iconst (v := 1) rfl (by decide) ?_
        refine Ev.aload_n rfl rfl ?_
        refine Ev.getf rfl rfl h_rd rfl ?_
        refine Ev.bipush (v := 15) rfl (by decide) ?_
        refine Ev.iand rfl ?_
        refine Ev.ishl rfl ?_
        refine Ev.ior rfl ?_
        refine Ev.putE rfl rfl h_rd rfl rfl rfl (Nat.le_of_ble_eq_true rfl) (fun τ7 f1 h_rd => ?_)
        replace h_rd : τ7.2 r = some (.inr (.inr (5, [(.ref (r + 1)), (.ref (r + 12)), (.int (nI (Rf s))), (.int (Rp s)), (.ref b), (.int (nI n)), (.int tk0), (.int (nI a)), (.int en0), (.int (nI v)), (.ref (r + 20)), (.int (si ||| ((1 : Int32) <<< (((nI v) &&& (15 : Int32)) &&& 31))))]))) := h_rd
        have h_nu := frm.cell f1 h_nu (by omega)
        have kp : (∀ q, q ≠ r → q ≠ r + 20 → τ7.2 q = σ.2 q) := fun q n0 n1 => (f1.2 q (by omega)).trans (kp q n0 n1)
        have fr := fr.step f1 (by omega) (by omega)
        refine Ev.ret rfl rfl (Nat.le_refl _) (Nat.le_refl _) ?_
        have hLO := LO_le (1 * 4 + 0)
        have hHI := HI_le (1 * 4 + 0)
        have hG : gds 1 0 n0 S.1 v = true := by
          show ((decide (v < S.1) && (decide (0 = 0) || !decide (v = n0)))) = true
          simp [hvL]
        rw [← hQ]
        refine ⟨rfl, fr, ?_, h_nu, kp⟩
        show τ7.2 r = some (.inr (.inr (5, [.ref (r + 1), .ref (r + 12), .int (nI (Rf (tkn 1 0 n0 S.1 v s a))), .int (Rp (tkn 1 0 n0 S.1 v s a)), .ref b, .int (nI n), .int tk0, .int (nI a), .int en0, .int (nI v), .ref (r + 20), .int (si ||| (1 : Int32) <<< ((nI v &&& 15) &&& 31))])))
        rw [show tkn 1 0 n0 S.1 v s a = s from if_pos hG]
        exact h_rd
      · skip
        refine Ev.aload_n rfl rfl ?_
        refine Ev.getf rfl rfl h_rd rfl ?_
        refine Ev.aload_n rfl rfl ?_
        refine Ev.getf rfl rfl h_rd rfl ?_
        refine Ev.cV1 rfl rfl h0 rfl rfl (by decide) ⟨(Nat.le_refl _), (Nat.le_refl _)⟩ (has_ok hS (nI v)) ?_
        rw [has_no (Or.inr (nI_le (Nat.le_of_not_lt hvL) (by omega)))]
        refine Ev.zeq (tgt := 112) rfl (by decide) (fun c88 => ?_) (fun c88 => absurd (by decide) c88)
        refine Ev.iconst (v := 0) rfl (by decide) ?_
        refine Ev.istore rfl rfl rfl ?_
        refine Ev.iload_n rfl rfl ?_
        refine Ev.bipush (v := 7) rfl (by decide) ?_
        refine Ev.jne (tgt := 151) rfl (by decide) (fun c118 => ?_) (fun c118 => absurd c118 (by decide))
        refine Ev.iload rfl rfl ?_
        refine Ev.zne (tgt := 161) rfl (by decide) (fun c153 => absurd (by decide) c153) (fun c153 => ?_)
        refine Ev.aload_n rfl rfl ?_
        refine Ev.iconst (v := 2) rfl (by decide) ?_
        refine Ev.xV1u rfl rfl h_rd rfl rfl (by decide) ⟨(Nat.le_refl _), (Nat.le_refl _)⟩ (note_ok (k := 2) h_rd hf4 (by decide)) (fun τ508 f9 h_rd => ?_)
        have h_nu := frm.cell f9 h_nu (by omega)
        have kp := fun q n0 n1 => (f9.2 q (by omega)).trans (kp q n0 n1)
        have fr := fr.step f9 (by omega) (by omega)
        refine Ev.aload_n rfl rfl ?_
        refine Ev.getf rfl rfl h_rd rfl ?_
        refine Ev.iload_n rfl rfl ?_
        refine Ev.aload_n rfl rfl ?_
        refine Ev.getf rfl rfl h_rd rfl ?_
        refine Ev.iastE (k := 0) rfl h_nu (rfl : (0 : Int32) = nI 0) ⟨(by omega), by decide⟩ (fun τ9 f1 h_nu => ?_)
        have h_rd := frm.cell f1 h_rd (by omega)
        have kp : (∀ q, q ≠ r → q ≠ r + 20 → τ9.2 q = σ.2 q) := fun q n0 n1 => (f1.2 q (by omega)).trans (kp q n0 n1)
        have fr := fr.step f1 (by omega) (by omega)
        refine Ev.aload_n rfl rfl ?_
        refine Ev.dup rfl rfl ?_
        refine Ev.getf rfl rfl h_rd rfl ?_
        refine Ev.iconst (v := 1) rfl (by decide) ?_
        refine Ev.aload_n rfl rfl ?_
        refine Ev.getf rfl rfl h_rd rfl ?_
        refine Ev.bipush (v := 15) rfl (by decide) ?_
        refine Ev.iand rfl ?_
        refine Ev.ishl rfl ?_
        refine Ev.ior rfl ?_
        refine Ev.putE rfl rfl h_rd rfl rfl rfl (Nat.le_of_ble_eq_true rfl) (fun τ10 f1 h_rd => ?_)
        replace h_rd : τ10.2 r = some (.inr (.inr (5, [(.ref (r + 1)), (.ref (r + 12)), (.int (nI (Rf (rnt s 2 a)))), (.int (Rp (rnt s 2 a))), (.ref b), (.int (nI n)), (.int tk0), (.int (nI a)), (.int en0), (.int (nI v)), (.ref (r + 20)), (.int (si ||| ((1 : Int32) <<< (((nI v) &&& (15 : Int32)) &&& 31))))]))) := h_rd
        have h_nu := frm.cell f1 h_nu (by omega)
        have kp : (∀ q, q ≠ r → q ≠ r + 20 → τ10.2 q = σ.2 q) := fun q n0 n1 => (f1.2 q (by omega)).trans (kp q n0 n1)
        have fr := fr.step f1 (by omega) (by omega)
        refine Ev.ret rfl rfl (Nat.le_refl _) (Nat.le_refl _) ?_
        have hLO := LO_le (1 * 4 + 0)
        have hHI := HI_le (1 * 4 + 0)
        have hG : ¬ gds 1 0 n0 S.1 v = true := by
          show ¬ ((decide (v < S.1) && (decide (0 = 0) || !decide (v = n0)))) = true
          simp [hvL]
        rw [← hQ]
        refine ⟨rfl, fr, ?_, h_nu, kp⟩
        show τ10.2 r = some (.inr (.inr (5, [.ref (r + 1), .ref (r + 12), .int (nI (Rf (tkn 1 0 n0 S.1 v s a))), .int (Rp (tkn 1 0 n0 S.1 v s a)), .ref b, .int (nI n), .int tk0, .int (nI a), .int en0, .int (nI v), .ref (r + 20), .int (si ||| (1 : Int32) <<< ((nI v &&& 15) &&& 31))])))
        rw [show tkn 1 0 n0 S.1 v s a = (rnt s 2 a) from if_neg hG]
        exact h_rd
    · skip
      refine Ev.iconst (v := 1) rfl (by decide) ?_
      refine Ev.goto (tgt := 61) rfl (by decide) ?_
      refine Ev.istore rfl rfl rfl ?_
      refine Ev.iload_n rfl rfl ?_
      refine Ev.iconst (v := 1) rfl (by decide) ?_
      refine Ev.jeq (tgt := 77) rfl (by decide) (fun c65 => ?_) (fun c65 => absurd (by decide) c65)
      by_cases hvL : v < S.1
      · skip
        refine Ev.aload_n rfl rfl ?_
        refine Ev.getf rfl rfl h_rd rfl ?_
        refine Ev.aload_n rfl rfl ?_
        refine Ev.getf rfl rfl h_rd rfl ?_
        refine Ev.cV1 rfl rfl h0 rfl rfl (by decide) ⟨(Nat.le_refl _), (Nat.le_refl _)⟩ (has_ok hS (nI v)) ?_
        rw [has_yes hvL hn16]
        refine Ev.zeq (tgt := 112) rfl (by decide) (fun c88 => absurd c88 (by decide)) (fun c88 => ?_)
        refine Ev.iload_n rfl rfl ?_
        refine Ev.zeq (tgt := 108) rfl (by decide) (fun c92 => ?_) (fun c92 => absurd (by decide) c92)
        refine Ev.iconst (v := 1) rfl (by decide) ?_
        refine Ev.goto (tgt := 113) rfl (by decide) ?_
        refine Ev.istore rfl rfl rfl ?_
        refine Ev.iload_n rfl rfl ?_
        refine Ev.bipush (v := 7) rfl (by decide) ?_
        refine Ev.jne (tgt := 151) rfl (by decide) (fun c118 => ?_) (fun c118 => absurd c118 (by decide))
        refine Ev.iload rfl rfl ?_
        refine Ev.zne (tgt := 161) rfl (by decide) (fun c153 => ?_) (fun c153 => absurd c153 (by decide))
        refine Ev.aload_n rfl rfl ?_
        refine Ev.getf rfl rfl h_rd rfl ?_
        refine Ev.iload_n rfl rfl ?_
        refine Ev.aload_n rfl rfl ?_
        refine Ev.getf rfl rfl h_rd rfl ?_
        refine Ev.iastE (k := 0) rfl h_nu (rfl : (0 : Int32) = nI 0) ⟨(by omega), by decide⟩ (fun τ11 f1 h_nu => ?_)
        have h_rd := frm.cell f1 h_rd (by omega)
        have kp : (∀ q, q ≠ r → q ≠ r + 20 → τ11.2 q = σ.2 q) := fun q n0 n1 => (f1.2 q (by omega)).trans (kp q n0 n1)
        have fr := fr.step f1 (by omega) (by omega)
        refine Ev.aload_n rfl rfl ?_
        refine Ev.dup rfl rfl ?_
        refine Ev.getf rfl rfl h_rd rfl ?_
        refine Ev.iconst (v := 1) rfl (by decide) ?_
        refine Ev.aload_n rfl rfl ?_
        refine Ev.getf rfl rfl h_rd rfl ?_
        refine Ev.bipush (v := 15) rfl (by decide) ?_
        refine Ev.iand rfl ?_
        refine Ev.ishl rfl ?_
        refine Ev.ior rfl ?_
        refine Ev.putE rfl rfl h_rd rfl rfl rfl (Nat.le_of_ble_eq_true rfl) (fun τ12 f1 h_rd => ?_)
        replace h_rd : τ12.2 r = some (.inr (.inr (5, [(.ref (r + 1)), (.ref (r + 12)), (.int (nI (Rf s))), (.int (Rp s)), (.ref b), (.int (nI n)), (.int tk0), (.int (nI a)), (.int en0), (.int (nI v)), (.ref (r + 20)), (.int (si ||| ((1 : Int32) <<< (((nI v) &&& (15 : Int32)) &&& 31))))]))) := h_rd
        have h_nu := frm.cell f1 h_nu (by omega)
        have kp : (∀ q, q ≠ r → q ≠ r + 20 → τ12.2 q = σ.2 q) := fun q n0 n1 => (f1.2 q (by omega)).trans (kp q n0 n1)
        have fr := fr.step f1 (by omega) (by omega)
        refine Ev.ret rfl rfl (Nat.le_refl _) (Nat.le_refl _) ?_
        have hLO := LO_le (1 * 4 + 0)
        have hHI := HI_le (1 * 4 + 0)
        have hG : gds 1 0 n0 S.1 v = true := by
          show ((decide (v < S.1) && (decide (0 = 0) || !decide (v = n0)))) = true
          simp [hvL]
        rw [← hQ]
        refine ⟨rfl, fr, ?_, h_nu, kp⟩
        show τ12.2 r = some (.inr (.inr (5, [.ref (r + 1), .ref (r + 12), .int (nI (Rf (tkn 1 0 n0 S.1 v s a))), .int (Rp (tkn 1 0 n0 S.1 v s a)), .ref b, .int (nI n), .int tk0, .int (nI a), .int en0, .int (nI v), .ref (r + 20), .int (si ||| (1 : Int32) <<< ((nI v &&& 15) &&& 31))])))
        rw [show tkn 1 0 n0 S.1 v s a = s from if_pos hG]
        exact h_rd
      · skip
        refine Ev.aload_n rfl rfl ?_
        refine Ev.getf rfl rfl h_rd rfl ?_
        refine Ev.aload_n rfl rfl ?_
        refine Ev.getf rfl rfl h_rd rfl ?_
        refine Ev.cV1 rfl rfl h0 rfl rfl (by decide) ⟨(Nat.le_refl _), (Nat.le_refl _)⟩ (has_ok hS (nI v)) ?_
        rw [has_no (Or.inr (nI_le (Nat.le_of_not_lt hvL) (by omega)))]
        refine Ev.zeq (tgt := 112) rfl (by decide) (fun c88 => ?_) (fun c88 => absurd (by decide) c88)
        refine Ev.iconst (v := 0) rfl (by decide) ?_
        refine Ev.istore rfl rfl rfl ?_
        refine Ev.iload_n rfl rfl ?_
        refine Ev.bipush (v := 7) rfl (by decide) ?_
        refine Ev.jne (tgt := 151) rfl (by decide) (fun c118 => ?_) (fun c118 => absurd c118 (by decide))
        refine Ev.iload rfl rfl ?_
        refine Ev.zne (tgt := 161) rfl (by decide) (fun c153 => absurd (by decide) c153) (fun c153 => ?_)
        refine Ev.aload_n rfl rfl ?_
        refine Ev.iconst (v := 2) rfl (by decide) ?_
        refine Ev.xV1u rfl rfl h_rd rfl rfl (by decide) ⟨(Nat.le_refl _), (Nat.le_refl _)⟩ (note_ok (k := 2) h_rd hf4 (by decide)) (fun τ513 f9 h_rd => ?_)
        have h_nu := frm.cell f9 h_nu (by omega)
        have kp := fun q n0 n1 => (f9.2 q (by omega)).trans (kp q n0 n1)
        have fr := fr.step f9 (by omega) (by omega)
        refine Ev.aload_n rfl rfl ?_
        refine Ev.getf rfl rfl h_rd rfl ?_
        refine Ev.iload_n rfl rfl ?_
        refine Ev.aload_n rfl rfl ?_
        refine Ev.getf rfl rfl h_rd rfl ?_
        refine Ev.iastE (k := 0) rfl h_nu (rfl : (0 : Int32) = nI 0) ⟨(by omega), by decide⟩ (fun τ14 f1 h_nu => ?_)
        have h_rd := frm.cell f1 h_rd (by omega)
        have kp : (∀ q, q ≠ r → q ≠ r + 20 → τ14.2 q = σ.2 q) := fun q n0 n1 => (f1.2 q (by omega)).trans (kp q n0 n1)
        have fr := fr.step f1 (by omega) (by omega)
        refine Ev.aload_n rfl rfl ?_
        refine Ev.dup rfl rfl ?_
        refine Ev.getf rfl rfl h_rd rfl ?_
        refine Ev.iconst (v := 1) rfl (by decide) ?_
        refine Ev.aload_n rfl rfl ?_
        refine Ev.getf rfl rfl h_rd rfl ?_
        refine Ev.bipush (v := 15) rfl (by decide) ?_
        refine Ev.iand rfl ?_
        refine Ev.ishl rfl ?_
        refine Ev.ior rfl ?_
        refine Ev.putE rfl rfl h_rd rfl rfl rfl (Nat.le_of_ble_eq_true rfl) (fun τ15 f1 h_rd => ?_)
        replace h_rd : τ15.2 r = some (.inr (.inr (5, [(.ref (r + 1)), (.ref (r + 12)), (.int (nI (Rf (rnt s 2 a)))), (.int (Rp (rnt s 2 a))), (.ref b), (.int (nI n)), (.int tk0), (.int (nI a)), (.int en0), (.int (nI v)), (.ref (r + 20)), (.int (si ||| ((1 : Int32) <<< (((nI v) &&& (15 : Int32)) &&& 31))))]))) := h_rd
        have h_nu := frm.cell f1 h_nu (by omega)
        have kp : (∀ q, q ≠ r → q ≠ r + 20 → τ15.2 q = σ.2 q) := fun q n0 n1 => (f1.2 q (by omega)).trans (kp q n0 n1)
        have fr := fr.step f1 (by omega) (by omega)
        refine Ev.ret rfl rfl (Nat.le_refl _) (Nat.le_refl _) ?_
        have hLO := LO_le (1 * 4 + 0)
        have hHI := HI_le (1 * 4 + 0)
        have hG : ¬ gds 1 0 n0 S.1 v = true := by
          show ¬ ((decide (v < S.1) && (decide (0 = 0) || !decide (v = n0)))) = true
          simp [hvL]
        rw [← hQ]
        refine ⟨rfl, fr, ?_, h_nu, kp⟩
        show τ15.2 r = some (.inr (.inr (5, [.ref (r + 1), .ref (r + 12), .int (nI (Rf (tkn 1 0 n0 S.1 v s a))), .int (Rp (tkn 1 0 n0 S.1 v s a)), .ref b, .int (nI n), .int tk0, .int (nI a), .int en0, .int (nI v), .ref (r + 20), .int (si ||| (1 : Int32) <<< ((nI v &&& 15) &&& 31))])))
        rw [show tkn 1 0 n0 S.1 v s a = (rnt s 2 a) from if_neg hG]
        exact h_rd
theorem tkN_11  {v n0 : Nat} {tk0 en0 si : Int32} (h_rd : σ.2 r = some (.inr (.inr (5, [.ref (r + 1), .ref (r + 12), .int (nI (Rf s)), .int (Rp s), .ref b, .int (nI n), .int tk0, .int (nI a), .int en0, .int (nI v), .ref (r + 20), .int si])))) {nu : Nat → Int32} (h_nu : σ.2 (r + 20) = some (.inl (0, 4, nu))) (hR : rdst Γ) (hS : isS σ (r + 1) S) (hn16 : S.1 ≤ 16) (hf4 : Rf s ≤ 4) (hv : v ≤ 999) (hb0 : n0 ≤ 999) (hn0 : nu 0 = nI n0) : RetX Γ m_Reader_takeNumber [.ref r, .int 1, .int 1] σ r (r + 21) none (fun τ => τ.2 r = some (.inr (.inr (5, [.ref (r + 1), .ref (r + 12), .int (nI (Rf (tkn 1 1 n0 S.1 v s a))), .int (Rp (tkn 1 1 n0 S.1 v s a)), .ref b, .int (nI n), .int tk0, .int (nI a), .int en0, .int (nI v), .ref (r + 20), .int (si ||| (1 : Int32) <<< ((nI v &&& 15) &&& 31))]))) ∧ τ.2 (r + 20) = some (.inl (0, 4, upd nu 1 (nI v))) ∧ ∀ q, q ≠ r → q ≠ r + 20 → τ.2 q = σ.2 q) := by
  obtain ⟨-, ⟨qhL, hL1, hL2⟩, ⟨qhH, hH1, hH2⟩⟩ := id hR
  obtain ⟨h0, h1, h2, h3, h4, h5, h6a, h7, h8, h9, h10⟩ := id hS
  unfold RetX
  generalize hQ : ((fun (r0 : Option Value) (τ : ex_S) => r0 = none ∧ frm σ τ r (r + 21) ∧ (fun τ : ex_S => τ.2 r = some (.inr (.inr (5, [.ref (r + 1), .ref (r + 12), .int (nI (Rf (tkn 1 1 n0 S.1 v s a))), .int (Rp (tkn 1 1 n0 S.1 v s a)), .ref b, .int (nI n), .int tk0, .int (nI a), .int en0, .int (nI v), .ref (r + 20), .int (si ||| (1 : Int32) <<< ((nI v &&& 15) &&& 31))]))) ∧ τ.2 (r + 20) = some (.inl (0, 4, upd nu 1 (nI v))) ∧ ∀ q, q ≠ r → q ≠ r + 20 → τ.2 q = σ.2 q) τ)) = Q
  refine Ret.start pm_121 rfl ?_
  have fr : frm σ σ r (r + 21) := frm.rf
  have kp : (∀ q, q ≠ r → q ≠ r + 20 → σ.2 q = σ.2 q) := fun _ _ _ => rfl
  refine Ev.iload_n rfl rfl ?_
  refine Ev.iconst (v := 4) rfl (by decide) ?_
  refine Ev.imul rfl ?_
  refine Ev.iload_n rfl rfl ?_
  refine Ev.iadd rfl ?_
  refine Ev.istore_n rfl rfl rfl ?_
  refine Ev.iload_n rfl rfl ?_
  refine Ev.zlt (tgt := 31) rfl (by decide) (fun c7 => absurd c7 (by decide)) (fun c7 => ?_)
  refine Ev.iload_n rfl rfl ?_
  refine Ev.iconst (v := 4) rfl (by decide) ?_
  refine Ev.jge (tgt := 31) rfl (by decide) (fun c12 => absurd (by decide) c12) (fun c12 => ?_)
  refine Ev.iload_n rfl rfl ?_
  refine Ev.gets (g := 2) rfl rfl ?_
  rw [hL1]
  refine Ev.alenS rfl hL2 rfl ?_
  refine Ev.jge (tgt := 31) rfl (by decide) (fun c20 => absurd (by decide) c20) (fun c20 => ?_)
  refine Ev.iload_n rfl rfl ?_
  refine Ev.gets (g := 3) rfl rfl ?_
  rw [hH1]
  refine Ev.alenS rfl hH2 rfl ?_
  refine Ev.jlt (tgt := 32) rfl (by decide) (fun c28 => ?_) (fun c28 => absurd (by decide) c28)
  refine Ev.aload_n rfl rfl ?_
  refine Ev.getf rfl rfl h_rd rfl ?_
  refine Ev.gets (g := 2) rfl rfl ?_
  rw [hL1]
  refine Ev.iload_n rfl rfl ?_
  refine Ev.ialdSN (k := 1 * 4 + 1) rfl hL2 (nq_add (a := 1 * 4) (b := 1) (nq_mul (a := 1) (b := 4) (rfl : (1 : Int32) = nI 1) (rfl : (4 : Int32) = nI 4)) (rfl : (1 : Int32) = nI 1)) ⟨(by omega), by decide⟩ ?_
  refine Ev.jlt (tgt := 60) rfl (by decide) (fun c41 => ?_) (fun c41 => ?_)
  · skip
    refine Ev.iconst (v := 0) rfl (by decide) ?_
    refine Ev.istore rfl rfl rfl ?_
    refine Ev.iload_n rfl rfl ?_
    refine Ev.iconst (v := 1) rfl (by decide) ?_
    refine Ev.jeq (tgt := 77) rfl (by decide) (fun c65 => ?_) (fun c65 => absurd (by decide) c65)
    by_cases hvL : v < S.1
    · skip
      refine Ev.aload_n rfl rfl ?_
      refine Ev.getf rfl rfl h_rd rfl ?_
      refine Ev.aload_n rfl rfl ?_
      refine Ev.getf rfl rfl h_rd rfl ?_
      refine Ev.cV1 rfl rfl h0 rfl rfl (by decide) ⟨(Nat.le_refl _), (Nat.le_refl _)⟩ (has_ok hS (nI v)) ?_
      rw [has_yes hvL hn16]
      refine Ev.zeq (tgt := 112) rfl (by decide) (fun c88 => absurd c88 (by decide)) (fun c88 => ?_)
      refine Ev.iload_n rfl rfl ?_
      refine Ev.zeq (tgt := 108) rfl (by decide) (fun c92 => absurd c92 (by decide)) (fun c92 => ?_)
      refine Ev.aload_n rfl rfl ?_
      refine Ev.getf rfl rfl h_rd rfl ?_
      refine Ev.aload_n rfl rfl ?_
      refine Ev.getf rfl rfl h_rd rfl ?_
      refine Ev.iconst (v := 0) rfl (by decide) ?_
      refine Ev.ialdN (k := 0) rfl h_nu (rfl : (0 : Int32) = nI 0) ⟨(by omega), by decide⟩ ?_
      rw [hn0]
      refine Ev.jeq (tgt := 112) rfl (by decide) (fun c105 => ?_) (fun c105 => ?_)
      · skip
        refine Ev.iconst (v := 0) rfl (by decide) ?_
        refine Ev.istore rfl rfl rfl ?_
        refine Ev.iload_n rfl rfl ?_
        refine Ev.bipush (v := 7) rfl (by decide) ?_
        refine Ev.jne (tgt := 151) rfl (by decide) (fun c118 => ?_) (fun c118 => absurd c118 (by decide))
        refine Ev.iload rfl rfl ?_
        refine Ev.zne (tgt := 161) rfl (by decide) (fun c153 => absurd (by decide) c153) (fun c153 => ?_)
        refine Ev.aload_n rfl rfl ?_
        refine Ev.iconst (v := 2) rfl (by decide) ?_
        refine Ev.xV1u rfl rfl h_rd rfl rfl (by decide) ⟨(Nat.le_refl _), (Nat.le_refl _)⟩ (note_ok (k := 2) h_rd hf4 (by decide)) (fun τ501 f9 h_rd => ?_)
        have h_nu := frm.cell f9 h_nu (by omega)
        have kp := fun q n0 n1 => (f9.2 q (by omega)).trans (kp q n0 n1)
        have fr := fr.step f9 (by omega) (by omega)
        refine Ev.aload_n rfl rfl ?_
        refine Ev.getf rfl rfl h_rd rfl ?_
        refine Ev.iload_n rfl rfl ?_
        refine Ev.aload_n rfl rfl ?_
        refine Ev.getf rfl rfl h_rd rfl ?_
        refine Ev.iastE (k := 1) rfl h_nu (rfl : (1 : Int32) = nI 1) ⟨(by omega), by decide⟩ (fun τ2 f1 h_nu => ?_)
        have h_rd := frm.cell f1 h_rd (by omega)
        have kp : (∀ q, q ≠ r → q ≠ r + 20 → τ2.2 q = σ.2 q) := fun q n0 n1 => (f1.2 q (by omega)).trans (kp q n0 n1)
        have fr := fr.step f1 (by omega) (by omega)
        refine Ev.aload_n rfl rfl ?_
        refine Ev.dup rfl rfl ?_
        refine Ev.getf rfl rfl h_rd rfl ?_
        refine Ev.iconst (v := 1) rfl (by decide) ?_
        refine Ev.aload_n rfl rfl ?_
        refine Ev.getf rfl rfl h_rd rfl ?_
        refine Ev.bipush (v := 15) rfl (by decide) ?_
        refine Ev.iand rfl ?_
        refine Ev.ishl rfl ?_
        refine Ev.ior rfl ?_
        refine Ev.putE rfl rfl h_rd rfl rfl rfl (Nat.le_of_ble_eq_true rfl) (fun τ3 f1 h_rd => ?_)
        replace h_rd : τ3.2 r = some (.inr (.inr (5, [(.ref (r + 1)), (.ref (r + 12)), (.int (nI (Rf (rnt s 2 a)))), (.int (Rp (rnt s 2 a))), (.ref b), (.int (nI n)), (.int tk0), (.int (nI a)), (.int en0), (.int (nI v)), (.ref (r + 20)), (.int (si ||| ((1 : Int32) <<< (((nI v) &&& (15 : Int32)) &&& 31))))]))) := h_rd
        have h_nu := frm.cell f1 h_nu (by omega)
        have kp : (∀ q, q ≠ r → q ≠ r + 20 → τ3.2 q = σ.2 q) := fun q n0 n1 => (f1.2 q (by omega)).trans (kp q n0 n1)
        have fr := fr.step f1 (by omega) (by omega)
        refine Ev.ret rfl rfl (Nat.le_refl _) (Nat.le_refl _) ?_
        have hLO := LO_le (1 * 4 + 1)
        have hHI := HI_le (1 * 4 + 1)
        have hG : ¬ gds 1 1 n0 S.1 v = true := by
          show ¬ ((decide (v < S.1) && (decide (1 = 0) || !decide (v = n0)))) = true
          have hne : v = n0 := nI_injL (by omega) (by omega) c105
          simp [hne]
        rw [← hQ]
        refine ⟨rfl, fr, ?_, h_nu, kp⟩
        show τ3.2 r = some (.inr (.inr (5, [.ref (r + 1), .ref (r + 12), .int (nI (Rf (tkn 1 1 n0 S.1 v s a))), .int (Rp (tkn 1 1 n0 S.1 v s a)), .ref b, .int (nI n), .int tk0, .int (nI a), .int en0, .int (nI v), .ref (r + 20), .int (si ||| (1 : Int32) <<< ((nI v &&& 15) &&& 31))])))
        rw [show tkn 1 1 n0 S.1 v s a = (rnt s 2 a) from if_neg hG]
        exact h_rd
      · skip
        refine Ev.iconst (v := 1) rfl (by decide) ?_
        refine Ev.goto (tgt := 113) rfl (by decide) ?_
        refine Ev.istore rfl rfl rfl ?_
        refine Ev.iload_n rfl rfl ?_
        refine Ev.bipush (v := 7) rfl (by decide) ?_
        refine Ev.jne (tgt := 151) rfl (by decide) (fun c118 => ?_) (fun c118 => absurd c118 (by decide))
        refine Ev.iload rfl rfl ?_
        refine Ev.zne (tgt := 161) rfl (by decide) (fun c153 => ?_) (fun c153 => absurd c153 (by decide))
        refine Ev.aload_n rfl rfl ?_
        refine Ev.getf rfl rfl h_rd rfl ?_
        refine Ev.iload_n rfl rfl ?_
        refine Ev.aload_n rfl rfl ?_
        refine Ev.getf rfl rfl h_rd rfl ?_
        refine Ev.iastE (k := 1) rfl h_nu (rfl : (1 : Int32) = nI 1) ⟨(by omega), by decide⟩ (fun τ4 f1 h_nu => ?_)
        have h_rd := frm.cell f1 h_rd (by omega)
        have kp : (∀ q, q ≠ r → q ≠ r + 20 → τ4.2 q = σ.2 q) := fun q n0 n1 => (f1.2 q (by omega)).trans (kp q n0 n1)
        have fr := fr.step f1 (by omega) (by omega)
        refine Ev.aload_n rfl rfl ?_
        refine Ev.dup rfl rfl ?_
        refine Ev.getf rfl rfl h_rd rfl ?_
        refine Ev.iconst (v := 1) rfl (by decide) ?_
        refine Ev.aload_n rfl rfl ?_
        refine Ev.getf rfl rfl h_rd rfl ?_
        refine Ev.bipush (v := 15) rfl (by decide) ?_
        refine Ev.iand rfl ?_
        refine Ev.ishl rfl ?_
        refine Ev.ior rfl ?_
        refine Ev.putE rfl rfl h_rd rfl rfl rfl (Nat.le_of_ble_eq_true rfl) (fun τ5 f1 h_rd => ?_)
        replace h_rd : τ5.2 r = some (.inr (.inr (5, [(.ref (r + 1)), (.ref (r + 12)), (.int (nI (Rf s))), (.int (Rp s)), (.ref b), (.int (nI n)), (.int tk0), (.int (nI a)), (.int en0), (.int (nI v)), (.ref (r + 20)), (.int (si ||| ((1 : Int32) <<< (((nI v) &&& (15 : Int32)) &&& 31))))]))) := h_rd
        have h_nu := frm.cell f1 h_nu (by omega)
        have kp : (∀ q, q ≠ r → q ≠ r + 20 → τ5.2 q = σ.2 q) := fun q n0 n1 => (f1.2 q (by omega)).trans (kp q n0 n1)
        have fr := fr.step f1 (by omega) (by omega)
        refine Ev.ret rfl rfl (Nat.le_refl _) (Nat.le_refl _) ?_
        have hLO := LO_le (1 * 4 + 1)
        have hHI := HI_le (1 * 4 + 1)
        have hG : gds 1 1 n0 S.1 v = true := by
          show ((decide (v < S.1) && (decide (1 = 0) || !decide (v = n0)))) = true
          have hne : ¬ v = n0 := fun h => c105 (congrArg nI h)
          simp [hvL, hne]
        rw [← hQ]
        refine ⟨rfl, fr, ?_, h_nu, kp⟩
        show τ5.2 r = some (.inr (.inr (5, [.ref (r + 1), .ref (r + 12), .int (nI (Rf (tkn 1 1 n0 S.1 v s a))), .int (Rp (tkn 1 1 n0 S.1 v s a)), .ref b, .int (nI n), .int tk0, .int (nI a), .int en0, .int (nI v), .ref (r + 20), .int (si ||| (1 : Int32) <<< ((nI v &&& 15) &&& 31))])))
        rw [show tkn 1 1 n0 S.1 v s a = s from if_pos hG]
        exact h_rd
    · skip
      refine Ev.aload_n rfl rfl ?_
      refine Ev.getf rfl rfl h_rd rfl ?_
      refine Ev.aload_n rfl rfl ?_
      refine Ev.getf rfl rfl h_rd rfl ?_
      refine Ev.cV1 rfl rfl h0 rfl rfl (by decide) ⟨(Nat.le_refl _), (Nat.le_refl _)⟩ (has_ok hS (nI v)) ?_
      rw [has_no (Or.inr (nI_le (Nat.le_of_not_lt hvL) (by omega)))]
      refine Ev.zeq (tgt := 112) rfl (by decide) (fun c88 => ?_) (fun c88 => absurd (by decide) c88)
      refine Ev.iconst (v := 0) rfl (by decide) ?_
      refine Ev.istore rfl rfl rfl ?_
      refine Ev.iload_n rfl rfl ?_
      refine Ev.bipush (v := 7) rfl (by decide) ?_
      refine Ev.jne (tgt := 151) rfl (by decide) (fun c118 => ?_) (fun c118 => absurd c118 (by decide))
      refine Ev.iload rfl rfl ?_
      refine Ev.zne (tgt := 161) rfl (by decide) (fun c153 => absurd (by decide) c153) (fun c153 => ?_)
      refine Ev.aload_n rfl rfl ?_
      refine Ev.iconst (v := 2) rfl (by decide) ?_
      refine Ev.xV1u rfl rfl h_rd rfl rfl (by decide) ⟨(Nat.le_refl _), (Nat.le_refl _)⟩ (note_ok (k := 2) h_rd hf4 (by decide)) (fun τ506 f9 h_rd => ?_)
      have h_nu := frm.cell f9 h_nu (by omega)
      have kp := fun q n0 n1 => (f9.2 q (by omega)).trans (kp q n0 n1)
      have fr := fr.step f9 (by omega) (by omega)
      refine Ev.aload_n rfl rfl ?_
      refine Ev.getf rfl rfl h_rd rfl ?_
      refine Ev.iload_n rfl rfl ?_
      refine Ev.aload_n rfl rfl ?_
      refine Ev.getf rfl rfl h_rd rfl ?_
      refine Ev.iastE (k := 1) rfl h_nu (rfl : (1 : Int32) = nI 1) ⟨(by omega), by decide⟩ (fun τ7 f1 h_nu => ?_)
      have h_rd := frm.cell f1 h_rd (by omega)
      have kp : (∀ q, q ≠ r → q ≠ r + 20 → τ7.2 q = σ.2 q) := fun q n0 n1 => (f1.2 q (by omega)).trans (kp q n0 n1)
      have fr := fr.step f1 (by omega) (by omega)
      refine Ev.aload_n rfl rfl ?_
      refine Ev.dup rfl rfl ?_
      refine Ev.getf rfl rfl h_rd rfl ?_
      refine Ev.iconst (v := 1) rfl (by decide) ?_
      refine Ev.aload_n rfl rfl ?_
      refine Ev.getf rfl rfl h_rd rfl ?_
      refine Ev.bipush (v := 15) rfl (by decide) ?_
      refine Ev.iand rfl ?_
      refine Ev.ishl rfl ?_
      refine Ev.ior rfl ?_
      refine Ev.putE rfl rfl h_rd rfl rfl rfl (Nat.le_of_ble_eq_true rfl) (fun τ8 f1 h_rd => ?_)
      replace h_rd : τ8.2 r = some (.inr (.inr (5, [(.ref (r + 1)), (.ref (r + 12)), (.int (nI (Rf (rnt s 2 a)))), (.int (Rp (rnt s 2 a))), (.ref b), (.int (nI n)), (.int tk0), (.int (nI a)), (.int en0), (.int (nI v)), (.ref (r + 20)), (.int (si ||| ((1 : Int32) <<< (((nI v) &&& (15 : Int32)) &&& 31))))]))) := h_rd
      have h_nu := frm.cell f1 h_nu (by omega)
      have kp : (∀ q, q ≠ r → q ≠ r + 20 → τ8.2 q = σ.2 q) := fun q n0 n1 => (f1.2 q (by omega)).trans (kp q n0 n1)
      have fr := fr.step f1 (by omega) (by omega)
      refine Ev.ret rfl rfl (Nat.le_refl _) (Nat.le_refl _) ?_
      have hLO := LO_le (1 * 4 + 1)
      have hHI := HI_le (1 * 4 + 1)
      have hG : ¬ gds 1 1 n0 S.1 v = true := by
        show ¬ ((decide (v < S.1) && (decide (1 = 0) || !decide (v = n0)))) = true
        simp [hvL]
      rw [← hQ]
      refine ⟨rfl, fr, ?_, h_nu, kp⟩
      show τ8.2 r = some (.inr (.inr (5, [.ref (r + 1), .ref (r + 12), .int (nI (Rf (tkn 1 1 n0 S.1 v s a))), .int (Rp (tkn 1 1 n0 S.1 v s a)), .ref b, .int (nI n), .int tk0, .int (nI a), .int en0, .int (nI v), .ref (r + 20), .int (si ||| (1 : Int32) <<< ((nI v &&& 15) &&& 31))])))
      rw [show tkn 1 1 n0 S.1 v s a = (rnt s 2 a) from if_neg hG]
      exact h_rd
  · skip
    refine Ev.aload_n rfl rfl ?_
    refine Ev.getf rfl rfl h_rd rfl ?_
    refine Ev.gets (g := 3) rfl rfl ?_
    rw [hH1]
    refine Ev.iload_n rfl rfl ?_
    refine Ev.ialdSN (k := 1 * 4 + 1) rfl hH2 (nq_add (a := 1 * 4) (b := 1) (nq_mul (a := 1) (b := 4) (rfl : (1 : Int32) = nI 1) (rfl : (4 : Int32) = nI 4)) (rfl : (1 : Int32) = nI 1)) ⟨(by omega), by decide⟩ ?_
    refine Ev.jgt (tgt := 60) rfl (by decide) (fun c53 => ?_) (fun c53 => ?_)
    · skip
      refine Ev.iconst (v := 0) rfl (by decide) ?_
      refine Ev.istore rfl rfl rfl ?_
      refine Ev.iload_n rfl rfl ?_
      refine Ev.iconst (v := 1) rfl (by decide) ?_
      refine Ev.jeq (tgt := 77) rfl (by decide) (fun c65 => ?_) (fun c65 => absurd (by decide) c65)
      by_cases hvL : v < S.1
      · skip
        refine Ev.aload_n rfl rfl ?_
        refine Ev.getf rfl rfl h_rd rfl ?_
        refine Ev.aload_n rfl rfl ?_
        refine Ev.getf rfl rfl h_rd rfl ?_
        refine Ev.cV1 rfl rfl h0 rfl rfl (by decide) ⟨(Nat.le_refl _), (Nat.le_refl _)⟩ (has_ok hS (nI v)) ?_
        rw [has_yes hvL hn16]
        refine Ev.zeq (tgt := 112) rfl (by decide) (fun c88 => absurd c88 (by decide)) (fun c88 => ?_)
        refine Ev.iload_n rfl rfl ?_
        refine Ev.zeq (tgt := 108) rfl (by decide) (fun c92 => absurd c92 (by decide)) (fun c92 => ?_)
        refine Ev.aload_n rfl rfl ?_
        refine Ev.getf rfl rfl h_rd rfl ?_
        refine Ev.aload_n rfl rfl ?_
        refine Ev.getf rfl rfl h_rd rfl ?_
        refine Ev.iconst (v := 0) rfl (by decide) ?_
        refine Ev.ialdN (k := 0) rfl h_nu (rfl : (0 : Int32) = nI 0) ⟨(by omega), by decide⟩ ?_
        rw [hn0]
        refine Ev.jeq (tgt := 112) rfl (by decide) (fun c105 => ?_) (fun c105 => ?_)
        · skip
          refine Ev.iconst (v := 0) rfl (by decide) ?_
          refine Ev.istore rfl rfl rfl ?_
          refine Ev.iload_n rfl rfl ?_
          refine Ev.bipush (v := 7) rfl (by decide) ?_
          refine Ev.jne (tgt := 151) rfl (by decide) (fun c118 => ?_) (fun c118 => absurd c118 (by decide))
          refine Ev.iload rfl rfl ?_
          refine Ev.zne (tgt := 161) rfl (by decide) (fun c153 => absurd (by decide) c153) (fun c153 => ?_)
          refine Ev.aload_n rfl rfl ?_
          refine Ev.iconst (v := 2) rfl (by decide) ?_
          refine Ev.xV1u rfl rfl h_rd rfl rfl (by decide) ⟨(Nat.le_refl _), (Nat.le_refl _)⟩ (note_ok (k := 2) h_rd hf4 (by decide)) (fun τ509 f9 h_rd => ?_)
          have h_nu := frm.cell f9 h_nu (by omega)
          have kp := fun q n0 n1 => (f9.2 q (by omega)).trans (kp q n0 n1)
          have fr := fr.step f9 (by omega) (by omega)
          refine Ev.aload_n rfl rfl ?_
          refine Ev.getf rfl rfl h_rd rfl ?_
          refine Ev.iload_n rfl rfl ?_
          refine Ev.aload_n rfl rfl ?_
          refine Ev.getf rfl rfl h_rd rfl ?_
          refine Ev.iastE (k := 1) rfl h_nu (rfl : (1 : Int32) = nI 1) ⟨(by omega), by decide⟩ (fun τ10 f1 h_nu => ?_)
          have h_rd := frm.cell f1 h_rd (by omega)
          have kp : (∀ q, q ≠ r → q ≠ r + 20 → τ10.2 q = σ.2 q) := fun q n0 n1 => (f1.2 q (by omega)).trans (kp q n0 n1)
          have fr := fr.step f1 (by omega) (by omega)
          refine Ev.aload_n rfl rfl ?_
          refine Ev.dup rfl rfl ?_
          refine Ev.getf rfl rfl h_rd rfl ?_
          refine Ev.iconst (v := 1) rfl (by decide) ?_
          refine Ev.aload_n rfl rfl ?_
          refine Ev.getf rfl rfl h_rd rfl ?_
          refine Ev.bipush (v := 15) rfl (by decide) ?_
          refine Ev.iand rfl ?_
          refine Ev.ishl rfl ?_
          refine Ev.ior rfl ?_
          refine Ev.putE rfl rfl h_rd rfl rfl rfl (Nat.le_of_ble_eq_true rfl) (fun τ11 f1 h_rd => ?_)
          replace h_rd : τ11.2 r = some (.inr (.inr (5, [(.ref (r + 1)), (.ref (r + 12)), (.int (nI (Rf (rnt s 2 a)))), (.int (Rp (rnt s 2 a))), (.ref b), (.int (nI n)), (.int tk0), (.int (nI a)), (.int en0), (.int (nI v)), (.ref (r + 20)), (.int (si ||| ((1 : Int32) <<< (((nI v) &&& (15 : Int32)) &&& 31))))]))) := h_rd
          have h_nu := frm.cell f1 h_nu (by omega)
          have kp : (∀ q, q ≠ r → q ≠ r + 20 → τ11.2 q = σ.2 q) := fun q n0 n1 => (f1.2 q (by omega)).trans (kp q n0 n1)
          have fr := fr.step f1 (by omega) (by omega)
          refine Ev.ret rfl rfl (Nat.le_refl _) (Nat.le_refl _) ?_
          have hLO := LO_le (1 * 4 + 1)
          have hHI := HI_le (1 * 4 + 1)
          have hG : ¬ gds 1 1 n0 S.1 v = true := by
            show ¬ ((decide (v < S.1) && (decide (1 = 0) || !decide (v = n0)))) = true
            have hne : v = n0 := nI_injL (by omega) (by omega) c105
            simp [hne]
          rw [← hQ]
          refine ⟨rfl, fr, ?_, h_nu, kp⟩
          show τ11.2 r = some (.inr (.inr (5, [.ref (r + 1), .ref (r + 12), .int (nI (Rf (tkn 1 1 n0 S.1 v s a))), .int (Rp (tkn 1 1 n0 S.1 v s a)), .ref b, .int (nI n), .int tk0, .int (nI a), .int en0, .int (nI v), .ref (r + 20), .int (si ||| (1 : Int32) <<< ((nI v &&& 15) &&& 31))])))
          rw [show tkn 1 1 n0 S.1 v s a = (rnt s 2 a) from if_neg hG]
          exact h_rd
        · skip
          refine Ev.iconst (v := 1) rfl (by decide) ?_
          refine Ev.goto (tgt := 113) rfl (by decide) ?_
          refine Ev.istore rfl rfl rfl ?_
          refine Ev.iload_n rfl rfl ?_
          refine Ev.bipush (v := 7) rfl (by decide) ?_
          refine Ev.jne (tgt := 151) rfl (by decide) (fun c118 => ?_) (fun c118 => absurd c118 (by decide))
          refine Ev.iload rfl rfl ?_
          refine Ev.zne (tgt := 161) rfl (by decide) (fun c153 => ?_) (fun c153 => absurd c153 (by decide))
          refine Ev.aload_n rfl rfl ?_
          refine Ev.getf rfl rfl h_rd rfl ?_
          refine Ev.iload_n rfl rfl ?_
          refine Ev.aload_n rfl rfl ?_
          refine Ev.getf rfl rfl h_rd rfl ?_
          refine Ev.iastE (k := 1) rfl h_nu (rfl : (1 : Int32) = nI 1) ⟨(by omega), by decide⟩ (fun τ12 f1 h_nu => ?_)
          have h_rd := frm.cell f1 h_rd (by omega)
          have kp : (∀ q, q ≠ r → q ≠ r + 20 → τ12.2 q = σ.2 q) := fun q n0 n1 => (f1.2 q (by omega)).trans (kp q n0 n1)
          have fr := fr.step f1 (by omega) (by omega)
          refine Ev.aload_n rfl rfl ?_
          refine Ev.dup rfl rfl ?_
          refine Ev.getf rfl rfl h_rd rfl ?_
          refine Ev.iconst (v := 1) rfl (by decide) ?_
          refine Ev.aload_n rfl rfl ?_
          refine Ev.getf rfl rfl h_rd rfl ?_
          refine Ev.bipush (v := 15) rfl (by decide) ?_
          refine Ev.iand rfl ?_
          refine Ev.ishl rfl ?_
          refine Ev.ior rfl ?_
          refine Ev.putE rfl rfl h_rd rfl rfl rfl (Nat.le_of_ble_eq_true rfl) (fun τ13 f1 h_rd => ?_)
          replace h_rd : τ13.2 r = some (.inr (.inr (5, [(.ref (r + 1)), (.ref (r + 12)), (.int (nI (Rf s))), (.int (Rp s)), (.ref b), (.int (nI n)), (.int tk0), (.int (nI a)), (.int en0), (.int (nI v)), (.ref (r + 20)), (.int (si ||| ((1 : Int32) <<< (((nI v) &&& (15 : Int32)) &&& 31))))]))) := h_rd
          have h_nu := frm.cell f1 h_nu (by omega)
          have kp : (∀ q, q ≠ r → q ≠ r + 20 → τ13.2 q = σ.2 q) := fun q n0 n1 => (f1.2 q (by omega)).trans (kp q n0 n1)
          have fr := fr.step f1 (by omega) (by omega)
          refine Ev.ret rfl rfl (Nat.le_refl _) (Nat.le_refl _) ?_
          have hLO := LO_le (1 * 4 + 1)
          have hHI := HI_le (1 * 4 + 1)
          have hG : gds 1 1 n0 S.1 v = true := by
            show ((decide (v < S.1) && (decide (1 = 0) || !decide (v = n0)))) = true
            have hne : ¬ v = n0 := fun h => c105 (congrArg nI h)
            simp [hvL, hne]
          rw [← hQ]
          refine ⟨rfl, fr, ?_, h_nu, kp⟩
          show τ13.2 r = some (.inr (.inr (5, [.ref (r + 1), .ref (r + 12), .int (nI (Rf (tkn 1 1 n0 S.1 v s a))), .int (Rp (tkn 1 1 n0 S.1 v s a)), .ref b, .int (nI n), .int tk0, .int (nI a), .int en0, .int (nI v), .ref (r + 20), .int (si ||| (1 : Int32) <<< ((nI v &&& 15) &&& 31))])))
          rw [show tkn 1 1 n0 S.1 v s a = s from if_pos hG]
          exact h_rd
      · skip
        refine Ev.aload_n rfl rfl ?_
        refine Ev.getf rfl rfl h_rd rfl ?_
        refine Ev.aload_n rfl rfl ?_
        refine Ev.getf rfl rfl h_rd rfl ?_
        refine Ev.cV1 rfl rfl h0 rfl rfl (by decide) ⟨(Nat.le_refl _), (Nat.le_refl _)⟩ (has_ok hS (nI v)) ?_
        rw [has_no (Or.inr (nI_le (Nat.le_of_not_lt hvL) (by omega)))]
        refine Ev.zeq (tgt := 112) rfl (by decide) (fun c88 => ?_) (fun c88 => absurd (by decide) c88)
        refine Ev.iconst (v := 0) rfl (by decide) ?_
        refine Ev.istore rfl rfl rfl ?_
        refine Ev.iload_n rfl rfl ?_
        refine Ev.bipush (v := 7) rfl (by decide) ?_
        refine Ev.jne (tgt := 151) rfl (by decide) (fun c118 => ?_) (fun c118 => absurd c118 (by decide))
        refine Ev.iload rfl rfl ?_
        refine Ev.zne (tgt := 161) rfl (by decide) (fun c153 => absurd (by decide) c153) (fun c153 => ?_)
        refine Ev.aload_n rfl rfl ?_
        refine Ev.iconst (v := 2) rfl (by decide) ?_
        refine Ev.xV1u rfl rfl h_rd rfl rfl (by decide) ⟨(Nat.le_refl _), (Nat.le_refl _)⟩ (note_ok (k := 2) h_rd hf4 (by decide)) (fun τ514 f9 h_rd => ?_)
        have h_nu := frm.cell f9 h_nu (by omega)
        have kp := fun q n0 n1 => (f9.2 q (by omega)).trans (kp q n0 n1)
        have fr := fr.step f9 (by omega) (by omega)
        refine Ev.aload_n rfl rfl ?_
        refine Ev.getf rfl rfl h_rd rfl ?_
        refine Ev.iload_n rfl rfl ?_
        refine Ev.aload_n rfl rfl ?_
        refine Ev.getf rfl rfl h_rd rfl ?_
        refine Ev.iastE (k := 1) rfl h_nu (rfl : (1 : Int32) = nI 1) ⟨(by omega), by decide⟩ (fun τ15 f1 h_nu => ?_)
        have h_rd := frm.cell f1 h_rd (by omega)
        have kp : (∀ q, q ≠ r → q ≠ r + 20 → τ15.2 q = σ.2 q) := fun q n0 n1 => (f1.2 q (by omega)).trans (kp q n0 n1)
        have fr := fr.step f1 (by omega) (by omega)
        refine Ev.aload_n rfl rfl ?_
        refine Ev.dup rfl rfl ?_
        refine Ev.getf rfl rfl h_rd rfl ?_
        refine Ev.iconst (v := 1) rfl (by decide) ?_
        refine Ev.aload_n rfl rfl ?_
        refine Ev.getf rfl rfl h_rd rfl ?_
        refine Ev.bipush (v := 15) rfl (by decide) ?_
        refine Ev.iand rfl ?_
        refine Ev.ishl rfl ?_
        refine Ev.ior rfl ?_
        refine Ev.putE rfl rfl h_rd rfl rfl rfl (Nat.le_of_ble_eq_true rfl) (fun τ16 f1 h_rd => ?_)
        replace h_rd : τ16.2 r = some (.inr (.inr (5, [(.ref (r + 1)), (.ref (r + 12)), (.int (nI (Rf (rnt s 2 a)))), (.int (Rp (rnt s 2 a))), (.ref b), (.int (nI n)), (.int tk0), (.int (nI a)), (.int en0), (.int (nI v)), (.ref (r + 20)), (.int (si ||| ((1 : Int32) <<< (((nI v) &&& (15 : Int32)) &&& 31))))]))) := h_rd
        have h_nu := frm.cell f1 h_nu (by omega)
        have kp : (∀ q, q ≠ r → q ≠ r + 20 → τ16.2 q = σ.2 q) := fun q n0 n1 => (f1.2 q (by omega)).trans (kp q n0 n1)
        have fr := fr.step f1 (by omega) (by omega)
        refine Ev.ret rfl rfl (Nat.le_refl _) (Nat.le_refl _) ?_
        have hLO := LO_le (1 * 4 + 1)
        have hHI := HI_le (1 * 4 + 1)
        have hG : ¬ gds 1 1 n0 S.1 v = true := by
          show ¬ ((decide (v < S.1) && (decide (1 = 0) || !decide (v = n0)))) = true
          simp [hvL]
        rw [← hQ]
        refine ⟨rfl, fr, ?_, h_nu, kp⟩
        show τ16.2 r = some (.inr (.inr (5, [.ref (r + 1), .ref (r + 12), .int (nI (Rf (tkn 1 1 n0 S.1 v s a))), .int (Rp (tkn 1 1 n0 S.1 v s a)), .ref b, .int (nI n), .int tk0, .int (nI a), .int en0, .int (nI v), .ref (r + 20), .int (si ||| (1 : Int32) <<< ((nI v &&& 15) &&& 31))])))
        rw [show tkn 1 1 n0 S.1 v s a = (rnt s 2 a) from if_neg hG]
        exact h_rd
    · skip
      refine Ev.iconst (v := 1) rfl (by decide) ?_
      refine Ev.goto (tgt := 61) rfl (by decide) ?_
      refine Ev.istore rfl rfl rfl ?_
      refine Ev.iload_n rfl rfl ?_
      refine Ev.iconst (v := 1) rfl (by decide) ?_
      refine Ev.jeq (tgt := 77) rfl (by decide) (fun c65 => ?_) (fun c65 => absurd (by decide) c65)
      by_cases hvL : v < S.1
      · skip
        refine Ev.aload_n rfl rfl ?_
        refine Ev.getf rfl rfl h_rd rfl ?_
        refine Ev.aload_n rfl rfl ?_
        refine Ev.getf rfl rfl h_rd rfl ?_
        refine Ev.cV1 rfl rfl h0 rfl rfl (by decide) ⟨(Nat.le_refl _), (Nat.le_refl _)⟩ (has_ok hS (nI v)) ?_
        rw [has_yes hvL hn16]
        refine Ev.zeq (tgt := 112) rfl (by decide) (fun c88 => absurd c88 (by decide)) (fun c88 => ?_)
        refine Ev.iload_n rfl rfl ?_
        refine Ev.zeq (tgt := 108) rfl (by decide) (fun c92 => absurd c92 (by decide)) (fun c92 => ?_)
        refine Ev.aload_n rfl rfl ?_
        refine Ev.getf rfl rfl h_rd rfl ?_
        refine Ev.aload_n rfl rfl ?_
        refine Ev.getf rfl rfl h_rd rfl ?_
        refine Ev.iconst (v := 0) rfl (by decide) ?_
        refine Ev.ialdN (k := 0) rfl h_nu (rfl : (0 : Int32) = nI 0) ⟨(by omega), by decide⟩ ?_
        rw [hn0]
        refine Ev.jeq (tgt := 112) rfl (by decide) (fun c105 => ?_) (fun c105 => ?_)
        · skip
          refine Ev.iconst (v := 0) rfl (by decide) ?_
          refine Ev.istore rfl rfl rfl ?_
          refine Ev.iload_n rfl rfl ?_
          refine Ev.bipush (v := 7) rfl (by decide) ?_
          refine Ev.jne (tgt := 151) rfl (by decide) (fun c118 => ?_) (fun c118 => absurd c118 (by decide))
          refine Ev.iload rfl rfl ?_
          refine Ev.zne (tgt := 161) rfl (by decide) (fun c153 => absurd (by decide) c153) (fun c153 => ?_)
          refine Ev.aload_n rfl rfl ?_
          refine Ev.iconst (v := 2) rfl (by decide) ?_
          refine Ev.xV1u rfl rfl h_rd rfl rfl (by decide) ⟨(Nat.le_refl _), (Nat.le_refl _)⟩ (note_ok (k := 2) h_rd hf4 (by decide)) (fun τ517 f9 h_rd => ?_)
          have h_nu := frm.cell f9 h_nu (by omega)
          have kp := fun q n0 n1 => (f9.2 q (by omega)).trans (kp q n0 n1)
          have fr := fr.step f9 (by omega) (by omega)
          refine Ev.aload_n rfl rfl ?_
          refine Ev.getf rfl rfl h_rd rfl ?_
          refine Ev.iload_n rfl rfl ?_
          refine Ev.aload_n rfl rfl ?_
          refine Ev.getf rfl rfl h_rd rfl ?_
          refine Ev.iastE (k := 1) rfl h_nu (rfl : (1 : Int32) = nI 1) ⟨(by omega), by decide⟩ (fun τ18 f1 h_nu => ?_)
          have h_rd := frm.cell f1 h_rd (by omega)
          have kp : (∀ q, q ≠ r → q ≠ r + 20 → τ18.2 q = σ.2 q) := fun q n0 n1 => (f1.2 q (by omega)).trans (kp q n0 n1)
          have fr := fr.step f1 (by omega) (by omega)
          refine Ev.aload_n rfl rfl ?_
          refine Ev.dup rfl rfl ?_
          refine Ev.getf rfl rfl h_rd rfl ?_
          refine Ev.iconst (v := 1) rfl (by decide) ?_
          refine Ev.aload_n rfl rfl ?_
          refine Ev.getf rfl rfl h_rd rfl ?_
          refine Ev.bipush (v := 15) rfl (by decide) ?_
          refine Ev.iand rfl ?_
          refine Ev.ishl rfl ?_
          refine Ev.ior rfl ?_
          refine Ev.putE rfl rfl h_rd rfl rfl rfl (Nat.le_of_ble_eq_true rfl) (fun τ19 f1 h_rd => ?_)
          replace h_rd : τ19.2 r = some (.inr (.inr (5, [(.ref (r + 1)), (.ref (r + 12)), (.int (nI (Rf (rnt s 2 a)))), (.int (Rp (rnt s 2 a))), (.ref b), (.int (nI n)), (.int tk0), (.int (nI a)), (.int en0), (.int (nI v)), (.ref (r + 20)), (.int (si ||| ((1 : Int32) <<< (((nI v) &&& (15 : Int32)) &&& 31))))]))) := h_rd
          have h_nu := frm.cell f1 h_nu (by omega)
          have kp : (∀ q, q ≠ r → q ≠ r + 20 → τ19.2 q = σ.2 q) := fun q n0 n1 => (f1.2 q (by omega)).trans (kp q n0 n1)
          have fr := fr.step f1 (by omega) (by omega)
          refine Ev.ret rfl rfl (Nat.le_refl _) (Nat.le_refl _) ?_
          have hLO := LO_le (1 * 4 + 1)
          have hHI := HI_le (1 * 4 + 1)
          have hG : ¬ gds 1 1 n0 S.1 v = true := by
            show ¬ ((decide (v < S.1) && (decide (1 = 0) || !decide (v = n0)))) = true
            have hne : v = n0 := nI_injL (by omega) (by omega) c105
            simp [hne]
          rw [← hQ]
          refine ⟨rfl, fr, ?_, h_nu, kp⟩
          show τ19.2 r = some (.inr (.inr (5, [.ref (r + 1), .ref (r + 12), .int (nI (Rf (tkn 1 1 n0 S.1 v s a))), .int (Rp (tkn 1 1 n0 S.1 v s a)), .ref b, .int (nI n), .int tk0, .int (nI a), .int en0, .int (nI v), .ref (r + 20), .int (si ||| (1 : Int32) <<< ((nI v &&& 15) &&& 31))])))
          rw [show tkn 1 1 n0 S.1 v s a = (rnt s 2 a) from if_neg hG]
          exact h_rd
        · skip
          refine Ev.iconst (v := 1) rfl (by decide) ?_
          refine Ev.goto (tgt := 113) rfl (by decide) ?_
          refine Ev.istore rfl rfl rfl ?_
          refine Ev.iload_n rfl rfl ?_
          refine Ev.bipush (v := 7) rfl (by decide) ?_
          refine Ev.jne (tgt := 151) rfl (by decide) (fun c118 => ?_) (fun c118 => absurd c118 (by decide))
          refine Ev.iload rfl rfl ?_
          refine Ev.zne (tgt := 161) rfl (by decide) (fun c153 => ?_) (fun c153 => absurd c153 (by decide))
          refine Ev.aload_n rfl rfl ?_
          refine Ev.getf rfl rfl h_rd rfl ?_
          refine Ev.iload_n rfl rfl ?_
          refine Ev.aload_n rfl rfl ?_
          refine Ev.getf rfl rfl h_rd rfl ?_
          refine Ev.iastE (k := 1) rfl h_nu (rfl : (1 : Int32) = nI 1) ⟨(by omega), by decide⟩ (fun τ20 f1 h_nu => ?_)
          have h_rd := frm.cell f1 h_rd (by omega)
          have kp : (∀ q, q ≠ r → q ≠ r + 20 → τ20.2 q = σ.2 q) := fun q n0 n1 => (f1.2 q (by omega)).trans (kp q n0 n1)
          have fr := fr.step f1 (by omega) (by omega)
          refine Ev.aload_n rfl rfl ?_
          refine Ev.dup rfl rfl ?_
          refine Ev.getf rfl rfl h_rd rfl ?_
          refine Ev.iconst (v := 1) rfl (by decide) ?_
          refine Ev.aload_n rfl rfl ?_
          refine Ev.getf rfl rfl h_rd rfl ?_
          refine Ev.bipush (v := 15) rfl (by decide) ?_
          refine Ev.iand rfl ?_
          refine Ev.ishl rfl ?_
          refine Ev.ior rfl ?_
          refine Ev.putE rfl rfl h_rd rfl rfl rfl (Nat.le_of_ble_eq_true rfl) (fun τ21 f1 h_rd => ?_)
          replace h_rd : τ21.2 r = some (.inr (.inr (5, [(.ref (r + 1)), (.ref (r + 12)), (.int (nI (Rf s))), (.int (Rp s)), (.ref b), (.int (nI n)), (.int tk0), (.int (nI a)), (.int en0), (.int (nI v)), (.ref (r + 20)), (.int (si ||| ((1 : Int32) <<< (((nI v) &&& (15 : Int32)) &&& 31))))]))) := h_rd
          have h_nu := frm.cell f1 h_nu (by omega)
          have kp : (∀ q, q ≠ r → q ≠ r + 20 → τ21.2 q = σ.2 q) := fun q n0 n1 => (f1.2 q (by omega)).trans (kp q n0 n1)
          have fr := fr.step f1 (by omega) (by omega)
          refine Ev.ret rfl rfl (Nat.le_refl _) (Nat.le_refl _) ?_
          have hLO := LO_le (1 * 4 + 1)
          have hHI := HI_le (1 * 4 + 1)
          have hG : gds 1 1 n0 S.1 v = true := by
            show ((decide (v < S.1) && (decide (1 = 0) || !decide (v = n0)))) = true
            have hne : ¬ v = n0 := fun h => c105 (congrArg nI h)
            simp [hvL, hne]
          rw [← hQ]
          refine ⟨rfl, fr, ?_, h_nu, kp⟩
          show τ21.2 r = some (.inr (.inr (5, [.ref (r + 1), .ref (r + 12), .int (nI (Rf (tkn 1 1 n0 S.1 v s a))), .int (Rp (tkn 1 1 n0 S.1 v s a)), .ref b, .int (nI n), .int tk0, .int (nI a), .int en0, .int (nI v), .ref (r + 20), .int (si ||| (1 : Int32) <<< ((nI v &&& 15) &&& 31))])))
          rw [show tkn 1 1 n0 S.1 v s a = s from if_pos hG]
          exact h_rd
      · skip
        refine Ev.aload_n rfl rfl ?_
        refine Ev.getf rfl rfl h_rd rfl ?_
        refine Ev.aload_n rfl rfl ?_
        refine Ev.getf rfl rfl h_rd rfl ?_
        refine Ev.cV1 rfl rfl h0 rfl rfl (by decide) ⟨(Nat.le_refl _), (Nat.le_refl _)⟩ (has_ok hS (nI v)) ?_
        rw [has_no (Or.inr (nI_le (Nat.le_of_not_lt hvL) (by omega)))]
        refine Ev.zeq (tgt := 112) rfl (by decide) (fun c88 => ?_) (fun c88 => absurd (by decide) c88)
        refine Ev.iconst (v := 0) rfl (by decide) ?_
        refine Ev.istore rfl rfl rfl ?_
        refine Ev.iload_n rfl rfl ?_
        refine Ev.bipush (v := 7) rfl (by decide) ?_
        refine Ev.jne (tgt := 151) rfl (by decide) (fun c118 => ?_) (fun c118 => absurd c118 (by decide))
        refine Ev.iload rfl rfl ?_
        refine Ev.zne (tgt := 161) rfl (by decide) (fun c153 => absurd (by decide) c153) (fun c153 => ?_)
        refine Ev.aload_n rfl rfl ?_
        refine Ev.iconst (v := 2) rfl (by decide) ?_
        refine Ev.xV1u rfl rfl h_rd rfl rfl (by decide) ⟨(Nat.le_refl _), (Nat.le_refl _)⟩ (note_ok (k := 2) h_rd hf4 (by decide)) (fun τ522 f9 h_rd => ?_)
        have h_nu := frm.cell f9 h_nu (by omega)
        have kp := fun q n0 n1 => (f9.2 q (by omega)).trans (kp q n0 n1)
        have fr := fr.step f9 (by omega) (by omega)
        refine Ev.aload_n rfl rfl ?_
        refine Ev.getf rfl rfl h_rd rfl ?_
        refine Ev.iload_n rfl rfl ?_
        refine Ev.aload_n rfl rfl ?_
        refine Ev.getf rfl rfl h_rd rfl ?_
        refine Ev.iastE (k := 1) rfl h_nu (rfl : (1 : Int32) = nI 1) ⟨(by omega), by decide⟩ (fun τ23 f1 h_nu => ?_)
        have h_rd := frm.cell f1 h_rd (by omega)
        have kp : (∀ q, q ≠ r → q ≠ r + 20 → τ23.2 q = σ.2 q) := fun q n0 n1 => (f1.2 q (by omega)).trans (kp q n0 n1)
        have fr := fr.step f1 (by omega) (by omega)
        refine Ev.aload_n rfl rfl ?_
        refine Ev.dup rfl rfl ?_
        refine Ev.getf rfl rfl h_rd rfl ?_
        refine Ev.iconst (v := 1) rfl (by decide) ?_
        refine Ev.aload_n rfl rfl ?_
        refine Ev.getf rfl rfl h_rd rfl ?_
        refine Ev.bipush (v := 15) rfl (by decide) ?_
        refine Ev.iand rfl ?_
        refine Ev.ishl rfl ?_
        refine Ev.ior rfl ?_
        refine Ev.putE rfl rfl h_rd rfl rfl rfl (Nat.le_of_ble_eq_true rfl) (fun τ24 f1 h_rd => ?_)
        replace h_rd : τ24.2 r = some (.inr (.inr (5, [(.ref (r + 1)), (.ref (r + 12)), (.int (nI (Rf (rnt s 2 a)))), (.int (Rp (rnt s 2 a))), (.ref b), (.int (nI n)), (.int tk0), (.int (nI a)), (.int en0), (.int (nI v)), (.ref (r + 20)), (.int (si ||| ((1 : Int32) <<< (((nI v) &&& (15 : Int32)) &&& 31))))]))) := h_rd
        have h_nu := frm.cell f1 h_nu (by omega)
        have kp : (∀ q, q ≠ r → q ≠ r + 20 → τ24.2 q = σ.2 q) := fun q n0 n1 => (f1.2 q (by omega)).trans (kp q n0 n1)
        have fr := fr.step f1 (by omega) (by omega)
        refine Ev.ret rfl rfl (Nat.le_refl _) (Nat.le_refl _) ?_
        have hLO := LO_le (1 * 4 + 1)
        have hHI := HI_le (1 * 4 + 1)
        have hG : ¬ gds 1 1 n0 S.1 v = true := by
          show ¬ ((decide (v < S.1) && (decide (1 = 0) || !decide (v = n0)))) = true
          simp [hvL]
        rw [← hQ]
        refine ⟨rfl, fr, ?_, h_nu, kp⟩
        show τ24.2 r = some (.inr (.inr (5, [.ref (r + 1), .ref (r + 12), .int (nI (Rf (tkn 1 1 n0 S.1 v s a))), .int (Rp (tkn 1 1 n0 S.1 v s a)), .ref b, .int (nI n), .int tk0, .int (nI a), .int en0, .int (nI v), .ref (r + 20), .int (si ||| (1 : Int32) <<< ((nI v &&& 15) &&& 31))])))
        rw [show tkn 1 1 n0 S.1 v s a = (rnt s 2 a) from if_neg hG]
        exact h_rd
theorem tkN_20  {v n0 : Nat} {tk0 en0 si : Int32} (h_rd : σ.2 r = some (.inr (.inr (5, [.ref (r + 1), .ref (r + 12), .int (nI (Rf s)), .int (Rp s), .ref b, .int (nI n), .int tk0, .int (nI a), .int en0, .int (nI v), .ref (r + 20), .int si])))) {nu : Nat → Int32} (h_nu : σ.2 (r + 20) = some (.inl (0, 4, nu))) (hR : rdst Γ) (hS : isS σ (r + 1) S) (hn16 : S.1 ≤ 16) (hf4 : Rf s ≤ 4) (hv : v ≤ 999) (hb0 : n0 ≤ 999)  : RetX Γ m_Reader_takeNumber [.ref r, .int 2, .int 0] σ r (r + 21) none (fun τ => τ.2 r = some (.inr (.inr (5, [.ref (r + 1), .ref (r + 12), .int (nI (Rf (tkn 2 0 n0 S.1 v s a))), .int (Rp (tkn 2 0 n0 S.1 v s a)), .ref b, .int (nI n), .int tk0, .int (nI a), .int en0, .int (nI v), .ref (r + 20), .int (si ||| (1 : Int32) <<< ((nI v &&& 15) &&& 31))]))) ∧ τ.2 (r + 20) = some (.inl (0, 4, upd nu 0 (nI v))) ∧ ∀ q, q ≠ r → q ≠ r + 20 → τ.2 q = σ.2 q) := by
  obtain ⟨-, ⟨qhL, hL1, hL2⟩, ⟨qhH, hH1, hH2⟩⟩ := id hR
  obtain ⟨h0, h1, h2, h3, h4, h5, h6a, h7, h8, h9, h10⟩ := id hS
  unfold RetX
  generalize hQ : ((fun (r0 : Option Value) (τ : ex_S) => r0 = none ∧ frm σ τ r (r + 21) ∧ (fun τ : ex_S => τ.2 r = some (.inr (.inr (5, [.ref (r + 1), .ref (r + 12), .int (nI (Rf (tkn 2 0 n0 S.1 v s a))), .int (Rp (tkn 2 0 n0 S.1 v s a)), .ref b, .int (nI n), .int tk0, .int (nI a), .int en0, .int (nI v), .ref (r + 20), .int (si ||| (1 : Int32) <<< ((nI v &&& 15) &&& 31))]))) ∧ τ.2 (r + 20) = some (.inl (0, 4, upd nu 0 (nI v))) ∧ ∀ q, q ≠ r → q ≠ r + 20 → τ.2 q = σ.2 q) τ)) = Q
  refine Ret.start pm_121 rfl ?_
  have fr : frm σ σ r (r + 21) := frm.rf
  have kp : (∀ q, q ≠ r → q ≠ r + 20 → σ.2 q = σ.2 q) := fun _ _ _ => rfl
  refine Ev.iload_n rfl rfl ?_
  refine Ev.iconst (v := 4) rfl (by decide) ?_
  refine Ev.imul rfl ?_
  refine Ev.iload_n rfl rfl ?_
  refine Ev.iadd rfl ?_
  refine Ev.istore_n rfl rfl rfl ?_
  refine Ev.iload_n rfl rfl ?_
  refine Ev.zlt (tgt := 31) rfl (by decide) (fun c7 => absurd c7 (by decide)) (fun c7 => ?_)
  refine Ev.iload_n rfl rfl ?_
  refine Ev.iconst (v := 4) rfl (by decide) ?_
  refine Ev.jge (tgt := 31) rfl (by decide) (fun c12 => absurd (by decide) c12) (fun c12 => ?_)
  refine Ev.iload_n rfl rfl ?_
  refine Ev.gets (g := 2) rfl rfl ?_
  rw [hL1]
  refine Ev.alenS rfl hL2 rfl ?_
  refine Ev.jge (tgt := 31) rfl (by decide) (fun c20 => absurd (by decide) c20) (fun c20 => ?_)
  refine Ev.iload_n rfl rfl ?_
  refine Ev.gets (g := 3) rfl rfl ?_
  rw [hH1]
  refine Ev.alenS rfl hH2 rfl ?_
  refine Ev.jlt (tgt := 32) rfl (by decide) (fun c28 => ?_) (fun c28 => absurd (by decide) c28)
  refine Ev.aload_n rfl rfl ?_
  refine Ev.getf rfl rfl h_rd rfl ?_
  refine Ev.gets (g := 2) rfl rfl ?_
  rw [hL1]
  refine Ev.iload_n rfl rfl ?_
  refine Ev.ialdSN (k := 2 * 4 + 0) rfl hL2 (nq_add (a := 2 * 4) (b := 0) (nq_mul (a := 2) (b := 4) (rfl : (2 : Int32) = nI 2) (rfl : (4 : Int32) = nI 4)) (rfl : (0 : Int32) = nI 0)) ⟨(by omega), by decide⟩ ?_
  refine Ev.jlt (tgt := 60) rfl (by decide) (fun c41 => ?_) (fun c41 => ?_)
  · skip
    refine Ev.iconst (v := 0) rfl (by decide) ?_
    refine Ev.istore rfl rfl rfl ?_
    refine Ev.iload_n rfl rfl ?_
    refine Ev.iconst (v := 1) rfl (by decide) ?_
    refine Ev.jeq (tgt := 77) rfl (by decide) (fun c65 => absurd c65 (by decide)) (fun c65 => ?_)
    refine Ev.iload_n rfl rfl ?_
    refine Ev.iconst (v := 2) rfl (by decide) ?_
    refine Ev.jne (tgt := 115) rfl (by decide) (fun c70 => absurd (by decide) c70) (fun c70 => ?_)
    refine Ev.iload_n rfl rfl ?_
    refine Ev.zne (tgt := 115) rfl (by decide) (fun c74 => absurd (by decide) c74) (fun c74 => ?_)
    by_cases hvL : v < S.1
    · skip
      refine Ev.aload_n rfl rfl ?_
      refine Ev.getf rfl rfl h_rd rfl ?_
      refine Ev.aload_n rfl rfl ?_
      refine Ev.getf rfl rfl h_rd rfl ?_
      refine Ev.cV1 rfl rfl h0 rfl rfl (by decide) ⟨(Nat.le_refl _), (Nat.le_refl _)⟩ (has_ok hS (nI v)) ?_
      rw [has_yes hvL hn16]
      refine Ev.zeq (tgt := 112) rfl (by decide) (fun c88 => absurd c88 (by decide)) (fun c88 => ?_)
      refine Ev.iload_n rfl rfl ?_
      refine Ev.zeq (tgt := 108) rfl (by decide) (fun c92 => ?_) (fun c92 => absurd (by decide) c92)
      refine Ev.iconst (v := 1) rfl (by decide) ?_
      refine Ev.goto (tgt := 113) rfl (by decide) ?_
      refine Ev.istore rfl rfl rfl ?_
      refine Ev.iload_n rfl rfl ?_
      refine Ev.bipush (v := 7) rfl (by decide) ?_
      refine Ev.jne (tgt := 151) rfl (by decide) (fun c118 => ?_) (fun c118 => absurd c118 (by decide))
      refine Ev.iload rfl rfl ?_
      refine Ev.zne (tgt := 161) rfl (by decide) (fun c153 => ?_) (fun c153 => absurd c153 (by decide))
      refine Ev.aload_n rfl rfl ?_
      refine Ev.getf rfl rfl h_rd rfl ?_
      refine Ev.iload_n rfl rfl ?_
      refine Ev.aload_n rfl rfl ?_
      refine Ev.getf rfl rfl h_rd rfl ?_
      refine Ev.iastE (k := 0) rfl h_nu (rfl : (0 : Int32) = nI 0) ⟨(by omega), by decide⟩ (fun τ1 f1 h_nu => ?_)
      have h_rd := frm.cell f1 h_rd (by omega)
      have kp : (∀ q, q ≠ r → q ≠ r + 20 → τ1.2 q = σ.2 q) := fun q n0 n1 => (f1.2 q (by omega)).trans (kp q n0 n1)
      have fr := fr.step f1 (by omega) (by omega)
      refine Ev.aload_n rfl rfl ?_
      refine Ev.dup rfl rfl ?_
      refine Ev.getf rfl rfl h_rd rfl ?_
      refine Ev.iconst (v := 1) rfl (by decide) ?_
      refine Ev.aload_n rfl rfl ?_
      refine Ev.getf rfl rfl h_rd rfl ?_
      refine Ev.bipush (v := 15) rfl (by decide) ?_
      refine Ev.iand rfl ?_
      refine Ev.ishl rfl ?_
      refine Ev.ior rfl ?_
      refine Ev.putE rfl rfl h_rd rfl rfl rfl (Nat.le_of_ble_eq_true rfl) (fun τ2 f1 h_rd => ?_)
      replace h_rd : τ2.2 r = some (.inr (.inr (5, [(.ref (r + 1)), (.ref (r + 12)), (.int (nI (Rf s))), (.int (Rp s)), (.ref b), (.int (nI n)), (.int tk0), (.int (nI a)), (.int en0), (.int (nI v)), (.ref (r + 20)), (.int (si ||| ((1 : Int32) <<< (((nI v) &&& (15 : Int32)) &&& 31))))]))) := h_rd
      have h_nu := frm.cell f1 h_nu (by omega)
      have kp : (∀ q, q ≠ r → q ≠ r + 20 → τ2.2 q = σ.2 q) := fun q n0 n1 => (f1.2 q (by omega)).trans (kp q n0 n1)
      have fr := fr.step f1 (by omega) (by omega)
      refine Ev.ret rfl rfl (Nat.le_refl _) (Nat.le_refl _) ?_
      have hLO := LO_le (2 * 4 + 0)
      have hHI := HI_le (2 * 4 + 0)
      have hG : gds 2 0 n0 S.1 v = true := by
        show (decide (v < S.1)) = true
        simp [hvL]
      rw [← hQ]
      refine ⟨rfl, fr, ?_, h_nu, kp⟩
      show τ2.2 r = some (.inr (.inr (5, [.ref (r + 1), .ref (r + 12), .int (nI (Rf (tkn 2 0 n0 S.1 v s a))), .int (Rp (tkn 2 0 n0 S.1 v s a)), .ref b, .int (nI n), .int tk0, .int (nI a), .int en0, .int (nI v), .ref (r + 20), .int (si ||| (1 : Int32) <<< ((nI v &&& 15) &&& 31))])))
      rw [show tkn 2 0 n0 S.1 v s a = s from if_pos hG]
      exact h_rd
    · skip
      refine Ev.aload_n rfl rfl ?_
      refine Ev.getf rfl rfl h_rd rfl ?_
      refine Ev.aload_n rfl rfl ?_
      refine Ev.getf rfl rfl h_rd rfl ?_
      refine Ev.cV1 rfl rfl h0 rfl rfl (by decide) ⟨(Nat.le_refl _), (Nat.le_refl _)⟩ (has_ok hS (nI v)) ?_
      rw [has_no (Or.inr (nI_le (Nat.le_of_not_lt hvL) (by omega)))]
      refine Ev.zeq (tgt := 112) rfl (by decide) (fun c88 => ?_) (fun c88 => absurd (by decide) c88)
      refine Ev.iconst (v := 0) rfl (by decide) ?_
      refine Ev.istore rfl rfl rfl ?_
      refine Ev.iload_n rfl rfl ?_
      refine Ev.bipush (v := 7) rfl (by decide) ?_
      refine Ev.jne (tgt := 151) rfl (by decide) (fun c118 => ?_) (fun c118 => absurd c118 (by decide))
      refine Ev.iload rfl rfl ?_
      refine Ev.zne (tgt := 161) rfl (by decide) (fun c153 => absurd (by decide) c153) (fun c153 => ?_)
      refine Ev.aload_n rfl rfl ?_
      refine Ev.iconst (v := 2) rfl (by decide) ?_
      refine Ev.xV1u rfl rfl h_rd rfl rfl (by decide) ⟨(Nat.le_refl _), (Nat.le_refl _)⟩ (note_ok (k := 2) h_rd hf4 (by decide)) (fun τ503 f9 h_rd => ?_)
      have h_nu := frm.cell f9 h_nu (by omega)
      have kp := fun q n0 n1 => (f9.2 q (by omega)).trans (kp q n0 n1)
      have fr := fr.step f9 (by omega) (by omega)
      refine Ev.aload_n rfl rfl ?_
      refine Ev.getf rfl rfl h_rd rfl ?_
      refine Ev.iload_n rfl rfl ?_
      refine Ev.aload_n rfl rfl ?_
      refine Ev.getf rfl rfl h_rd rfl ?_
      refine Ev.iastE (k := 0) rfl h_nu (rfl : (0 : Int32) = nI 0) ⟨(by omega), by decide⟩ (fun τ4 f1 h_nu => ?_)
      have h_rd := frm.cell f1 h_rd (by omega)
      have kp : (∀ q, q ≠ r → q ≠ r + 20 → τ4.2 q = σ.2 q) := fun q n0 n1 => (f1.2 q (by omega)).trans (kp q n0 n1)
      have fr := fr.step f1 (by omega) (by omega)
      refine Ev.aload_n rfl rfl ?_
      refine Ev.dup rfl rfl ?_
      refine Ev.getf rfl rfl h_rd rfl ?_
      refine Ev.iconst (v := 1) rfl (by decide) ?_
      refine Ev.aload_n rfl rfl ?_
      refine Ev.getf rfl rfl h_rd rfl ?_
      refine Ev.bipush (v := 15) rfl (by decide) ?_
      refine Ev.iand rfl ?_
      refine Ev.ishl rfl ?_
      refine Ev.ior rfl ?_
      refine Ev.putE rfl rfl h_rd rfl rfl rfl (Nat.le_of_ble_eq_true rfl) (fun τ5 f1 h_rd => ?_)
      replace h_rd : τ5.2 r = some (.inr (.inr (5, [(.ref (r + 1)), (.ref (r + 12)), (.int (nI (Rf (rnt s 2 a)))), (.int (Rp (rnt s 2 a))), (.ref b), (.int (nI n)), (.int tk0), (.int (nI a)), (.int en0), (.int (nI v)), (.ref (r + 20)), (.int (si ||| ((1 : Int32) <<< (((nI v) &&& (15 : Int32)) &&& 31))))]))) := h_rd
      have h_nu := frm.cell f1 h_nu (by omega)
      have kp : (∀ q, q ≠ r → q ≠ r + 20 → τ5.2 q = σ.2 q) := fun q n0 n1 => (f1.2 q (by omega)).trans (kp q n0 n1)
      have fr := fr.step f1 (by omega) (by omega)
      refine Ev.ret rfl rfl (Nat.le_refl _) (Nat.le_refl _) ?_
      have hLO := LO_le (2 * 4 + 0)
      have hHI := HI_le (2 * 4 + 0)
      have hG : ¬ gds 2 0 n0 S.1 v = true := by
        show ¬ (decide (v < S.1)) = true
        simp [hvL]
      rw [← hQ]
      refine ⟨rfl, fr, ?_, h_nu, kp⟩
      show τ5.2 r = some (.inr (.inr (5, [.ref (r + 1), .ref (r + 12), .int (nI (Rf (tkn 2 0 n0 S.1 v s a))), .int (Rp (tkn 2 0 n0 S.1 v s a)), .ref b, .int (nI n), .int tk0, .int (nI a), .int en0, .int (nI v), .ref (r + 20), .int (si ||| (1 : Int32) <<< ((nI v &&& 15) &&& 31))])))
      rw [show tkn 2 0 n0 S.1 v s a = (rnt s 2 a) from if_neg hG]
      exact h_rd
  · skip
    refine Ev.aload_n rfl rfl ?_
    refine Ev.getf rfl rfl h_rd rfl ?_
    refine Ev.gets (g := 3) rfl rfl ?_
    rw [hH1]
    refine Ev.iload_n rfl rfl ?_
    refine Ev.ialdSN (k := 2 * 4 + 0) rfl hH2 (nq_add (a := 2 * 4) (b := 0) (nq_mul (a := 2) (b := 4) (rfl : (2 : Int32) = nI 2) (rfl : (4 : Int32) = nI 4)) (rfl : (0 : Int32) = nI 0)) ⟨(by omega), by decide⟩ ?_
    refine Ev.jgt (tgt := 60) rfl (by decide) (fun c53 => ?_) (fun c53 => ?_)
    · skip
      refine Ev.iconst (v := 0) rfl (by decide) ?_
      refine Ev.istore rfl rfl rfl ?_
      refine Ev.iload_n rfl rfl ?_
      refine Ev.iconst (v := 1) rfl (by decide) ?_
      refine Ev.jeq (tgt := 77) rfl (by decide) (fun c65 => absurd c65 (by decide)) (fun c65 => ?_)
      refine Ev.iload_n rfl rfl ?_
      refine Ev.iconst (v := 2) rfl (by decide) ?_
      refine Ev.jne (tgt := 115) rfl (by decide) (fun c70 => absurd (by decide) c70) (fun c70 => ?_)
      refine Ev.iload_n rfl rfl ?_
      refine Ev.zne (tgt := 115) rfl (by decide) (fun c74 => absurd (by decide) c74) (fun c74 => ?_)
      by_cases hvL : v < S.1
      · skip
        refine Ev.aload_n rfl rfl ?_
        refine Ev.getf rfl rfl h_rd rfl ?_
        refine Ev.aload_n rfl rfl ?_
        refine Ev.getf rfl rfl h_rd rfl ?_
        refine Ev.cV1 rfl rfl h0 rfl rfl (by decide) ⟨(Nat.le_refl _), (Nat.le_refl _)⟩ (has_ok hS (nI v)) ?_
        rw [has_yes hvL hn16]
        refine Ev.zeq (tgt := 112) rfl (by decide) (fun c88 => absurd c88 (by decide)) (fun c88 => ?_)
        refine Ev.iload_n rfl rfl ?_
        refine Ev.zeq (tgt := 108) rfl (by decide) (fun c92 => ?_) (fun c92 => absurd (by decide) c92)
        refine Ev.iconst (v := 1) rfl (by decide) ?_
        refine Ev.goto (tgt := 113) rfl (by decide) ?_
        refine Ev.istore rfl rfl rfl ?_
        refine Ev.iload_n rfl rfl ?_
        refine Ev.bipush (v := 7) rfl (by decide) ?_
        refine Ev.jne (tgt := 151) rfl (by decide) (fun c118 => ?_) (fun c118 => absurd c118 (by decide))
        refine Ev.iload rfl rfl ?_
        refine Ev.zne (tgt := 161) rfl (by decide) (fun c153 => ?_) (fun c153 => absurd c153 (by decide))
        refine Ev.aload_n rfl rfl ?_
        refine Ev.getf rfl rfl h_rd rfl ?_
        refine Ev.iload_n rfl rfl ?_
        refine Ev.aload_n rfl rfl ?_
        refine Ev.getf rfl rfl h_rd rfl ?_
        refine Ev.iastE (k := 0) rfl h_nu (rfl : (0 : Int32) = nI 0) ⟨(by omega), by decide⟩ (fun τ6 f1 h_nu => ?_)
        have h_rd := frm.cell f1 h_rd (by omega)
        have kp : (∀ q, q ≠ r → q ≠ r + 20 → τ6.2 q = σ.2 q) := fun q n0 n1 => (f1.2 q (by omega)).trans (kp q n0 n1)
        have fr := fr.step f1 (by omega) (by omega)
        refine Ev.aload_n rfl rfl ?_
        refine Ev.dup rfl rfl ?_
        refine Ev.getf rfl rfl h_rd rfl ?_
        refine Ev.iconst (v := 1) rfl (by decide) ?_
        refine Ev.aload_n rfl rfl ?_
        refine Ev.getf rfl rfl h_rd rfl ?_
        refine Ev.bipush (v := 15) rfl (by decide) ?_
        refine Ev.iand rfl ?_
        refine Ev.ishl rfl ?_
        refine Ev.ior rfl ?_
        refine Ev.putE rfl rfl h_rd rfl rfl rfl (Nat.le_of_ble_eq_true rfl) (fun τ7 f1 h_rd => ?_)
        replace h_rd : τ7.2 r = some (.inr (.inr (5, [(.ref (r + 1)), (.ref (r + 12)), (.int (nI (Rf s))), (.int (Rp s)), (.ref b), (.int (nI n)), (.int tk0), (.int (nI a)), (.int en0), (.int (nI v)), (.ref (r + 20)), (.int (si ||| ((1 : Int32) <<< (((nI v) &&& (15 : Int32)) &&& 31))))]))) := h_rd
        have h_nu := frm.cell f1 h_nu (by omega)
        have kp : (∀ q, q ≠ r → q ≠ r + 20 → τ7.2 q = σ.2 q) := fun q n0 n1 => (f1.2 q (by omega)).trans (kp q n0 n1)
        have fr := fr.step f1 (by omega) (by omega)
        refine Ev.ret rfl rfl (Nat.le_refl _) (Nat.le_refl _) ?_
        have hLO := LO_le (2 * 4 + 0)
        have hHI := HI_le (2 * 4 + 0)
        have hG : gds 2 0 n0 S.1 v = true := by
          show (decide (v < S.1)) = true
          simp [hvL]
        rw [← hQ]
        refine ⟨rfl, fr, ?_, h_nu, kp⟩
        show τ7.2 r = some (.inr (.inr (5, [.ref (r + 1), .ref (r + 12), .int (nI (Rf (tkn 2 0 n0 S.1 v s a))), .int (Rp (tkn 2 0 n0 S.1 v s a)), .ref b, .int (nI n), .int tk0, .int (nI a), .int en0, .int (nI v), .ref (r + 20), .int (si ||| (1 : Int32) <<< ((nI v &&& 15) &&& 31))])))
        rw [show tkn 2 0 n0 S.1 v s a = s from if_pos hG]
        exact h_rd
      · skip
        refine Ev.aload_n rfl rfl ?_
        refine Ev.getf rfl rfl h_rd rfl ?_
        refine Ev.aload_n rfl rfl ?_
        refine Ev.getf rfl rfl h_rd rfl ?_
        refine Ev.cV1 rfl rfl h0 rfl rfl (by decide) ⟨(Nat.le_refl _), (Nat.le_refl _)⟩ (has_ok hS (nI v)) ?_
        rw [has_no (Or.inr (nI_le (Nat.le_of_not_lt hvL) (by omega)))]
        refine Ev.zeq (tgt := 112) rfl (by decide) (fun c88 => ?_) (fun c88 => absurd (by decide) c88)
        refine Ev.iconst (v := 0) rfl (by decide) ?_
        refine Ev.istore rfl rfl rfl ?_
        refine Ev.iload_n rfl rfl ?_
        refine Ev.bipush (v := 7) rfl (by decide) ?_
        refine Ev.jne (tgt := 151) rfl (by decide) (fun c118 => ?_) (fun c118 => absurd c118 (by decide))
        refine Ev.iload rfl rfl ?_
        refine Ev.zne (tgt := 161) rfl (by decide) (fun c153 => absurd (by decide) c153) (fun c153 => ?_)
        refine Ev.aload_n rfl rfl ?_
        refine Ev.iconst (v := 2) rfl (by decide) ?_
        refine Ev.xV1u rfl rfl h_rd rfl rfl (by decide) ⟨(Nat.le_refl _), (Nat.le_refl _)⟩ (note_ok (k := 2) h_rd hf4 (by decide)) (fun τ508 f9 h_rd => ?_)
        have h_nu := frm.cell f9 h_nu (by omega)
        have kp := fun q n0 n1 => (f9.2 q (by omega)).trans (kp q n0 n1)
        have fr := fr.step f9 (by omega) (by omega)
        refine Ev.aload_n rfl rfl ?_
        refine Ev.getf rfl rfl h_rd rfl ?_
        refine Ev.iload_n rfl rfl ?_
        refine Ev.aload_n rfl rfl ?_
        refine Ev.getf rfl rfl h_rd rfl ?_
        refine Ev.iastE (k := 0) rfl h_nu (rfl : (0 : Int32) = nI 0) ⟨(by omega), by decide⟩ (fun τ9 f1 h_nu => ?_)
        have h_rd := frm.cell f1 h_rd (by omega)
        have kp : (∀ q, q ≠ r → q ≠ r + 20 → τ9.2 q = σ.2 q) := fun q n0 n1 => (f1.2 q (by omega)).trans (kp q n0 n1)
        have fr := fr.step f1 (by omega) (by omega)
        refine Ev.aload_n rfl rfl ?_
        refine Ev.dup rfl rfl ?_
        refine Ev.getf rfl rfl h_rd rfl ?_
        refine Ev.iconst (v := 1) rfl (by decide) ?_
        refine Ev.aload_n rfl rfl ?_
        refine Ev.getf rfl rfl h_rd rfl ?_
        refine Ev.bipush (v := 15) rfl (by decide) ?_
        refine Ev.iand rfl ?_
        refine Ev.ishl rfl ?_
        refine Ev.ior rfl ?_
        refine Ev.putE rfl rfl h_rd rfl rfl rfl (Nat.le_of_ble_eq_true rfl) (fun τ10 f1 h_rd => ?_)
        replace h_rd : τ10.2 r = some (.inr (.inr (5, [(.ref (r + 1)), (.ref (r + 12)), (.int (nI (Rf (rnt s 2 a)))), (.int (Rp (rnt s 2 a))), (.ref b), (.int (nI n)), (.int tk0), (.int (nI a)), (.int en0), (.int (nI v)), (.ref (r + 20)), (.int (si ||| ((1 : Int32) <<< (((nI v) &&& (15 : Int32)) &&& 31))))]))) := h_rd
        have h_nu := frm.cell f1 h_nu (by omega)
        have kp : (∀ q, q ≠ r → q ≠ r + 20 → τ10.2 q = σ.2 q) := fun q n0 n1 => (f1.2 q (by omega)).trans (kp q n0 n1)
        have fr := fr.step f1 (by omega) (by omega)
        refine Ev.ret rfl rfl (Nat.le_refl _) (Nat.le_refl _) ?_
        have hLO := LO_le (2 * 4 + 0)
        have hHI := HI_le (2 * 4 + 0)
        have hG : ¬ gds 2 0 n0 S.1 v = true := by
          show ¬ (decide (v < S.1)) = true
          simp [hvL]
        rw [← hQ]
        refine ⟨rfl, fr, ?_, h_nu, kp⟩
        show τ10.2 r = some (.inr (.inr (5, [.ref (r + 1), .ref (r + 12), .int (nI (Rf (tkn 2 0 n0 S.1 v s a))), .int (Rp (tkn 2 0 n0 S.1 v s a)), .ref b, .int (nI n), .int tk0, .int (nI a), .int en0, .int (nI v), .ref (r + 20), .int (si ||| (1 : Int32) <<< ((nI v &&& 15) &&& 31))])))
        rw [show tkn 2 0 n0 S.1 v s a = (rnt s 2 a) from if_neg hG]
        exact h_rd
    · skip
      refine Ev.iconst (v := 1) rfl (by decide) ?_
      refine Ev.goto (tgt := 61) rfl (by decide) ?_
      refine Ev.istore rfl rfl rfl ?_
      refine Ev.iload_n rfl rfl ?_
      refine Ev.iconst (v := 1) rfl (by decide) ?_
      refine Ev.jeq (tgt := 77) rfl (by decide) (fun c65 => absurd c65 (by decide)) (fun c65 => ?_)
      refine Ev.iload_n rfl rfl ?_
      refine Ev.iconst (v := 2) rfl (by decide) ?_
      refine Ev.jne (tgt := 115) rfl (by decide) (fun c70 => absurd (by decide) c70) (fun c70 => ?_)
      refine Ev.iload_n rfl rfl ?_
      refine Ev.zne (tgt := 115) rfl (by decide) (fun c74 => absurd (by decide) c74) (fun c74 => ?_)
      by_cases hvL : v < S.1
      · skip
        refine Ev.aload_n rfl rfl ?_
        refine Ev.getf rfl rfl h_rd rfl ?_
        refine Ev.aload_n rfl rfl ?_
        refine Ev.getf rfl rfl h_rd rfl ?_
        refine Ev.cV1 rfl rfl h0 rfl rfl (by decide) ⟨(Nat.le_refl _), (Nat.le_refl _)⟩ (has_ok hS (nI v)) ?_
        rw [has_yes hvL hn16]
        refine Ev.zeq (tgt := 112) rfl (by decide) (fun c88 => absurd c88 (by decide)) (fun c88 => ?_)
        refine Ev.iload_n rfl rfl ?_
        refine Ev.zeq (tgt := 108) rfl (by decide) (fun c92 => ?_) (fun c92 => absurd (by decide) c92)
        refine Ev.iconst (v := 1) rfl (by decide) ?_
        refine Ev.goto (tgt := 113) rfl (by decide) ?_
        refine Ev.istore rfl rfl rfl ?_
        refine Ev.iload_n rfl rfl ?_
        refine Ev.bipush (v := 7) rfl (by decide) ?_
        refine Ev.jne (tgt := 151) rfl (by decide) (fun c118 => ?_) (fun c118 => absurd c118 (by decide))
        refine Ev.iload rfl rfl ?_
        refine Ev.zne (tgt := 161) rfl (by decide) (fun c153 => ?_) (fun c153 => absurd c153 (by decide))
        refine Ev.aload_n rfl rfl ?_
        refine Ev.getf rfl rfl h_rd rfl ?_
        refine Ev.iload_n rfl rfl ?_
        refine Ev.aload_n rfl rfl ?_
        refine Ev.getf rfl rfl h_rd rfl ?_
        refine Ev.iastE (k := 0) rfl h_nu (rfl : (0 : Int32) = nI 0) ⟨(by omega), by decide⟩ (fun τ11 f1 h_nu => ?_)
        have h_rd := frm.cell f1 h_rd (by omega)
        have kp : (∀ q, q ≠ r → q ≠ r + 20 → τ11.2 q = σ.2 q) := fun q n0 n1 => (f1.2 q (by omega)).trans (kp q n0 n1)
        have fr := fr.step f1 (by omega) (by omega)
        refine Ev.aload_n rfl rfl ?_
        refine Ev.dup rfl rfl ?_
        refine Ev.getf rfl rfl h_rd rfl ?_
        refine Ev.iconst (v := 1) rfl (by decide) ?_
        refine Ev.aload_n rfl rfl ?_
        refine Ev.getf rfl rfl h_rd rfl ?_
        refine Ev.bipush (v := 15) rfl (by decide) ?_
        refine Ev.iand rfl ?_
        refine Ev.ishl rfl ?_
        refine Ev.ior rfl ?_
        refine Ev.putE rfl rfl h_rd rfl rfl rfl (Nat.le_of_ble_eq_true rfl) (fun τ12 f1 h_rd => ?_)
        replace h_rd : τ12.2 r = some (.inr (.inr (5, [(.ref (r + 1)), (.ref (r + 12)), (.int (nI (Rf s))), (.int (Rp s)), (.ref b), (.int (nI n)), (.int tk0), (.int (nI a)), (.int en0), (.int (nI v)), (.ref (r + 20)), (.int (si ||| ((1 : Int32) <<< (((nI v) &&& (15 : Int32)) &&& 31))))]))) := h_rd
        have h_nu := frm.cell f1 h_nu (by omega)
        have kp : (∀ q, q ≠ r → q ≠ r + 20 → τ12.2 q = σ.2 q) := fun q n0 n1 => (f1.2 q (by omega)).trans (kp q n0 n1)
        have fr := fr.step f1 (by omega) (by omega)
        refine Ev.ret rfl rfl (Nat.le_refl _) (Nat.le_refl _) ?_
        have hLO := LO_le (2 * 4 + 0)
        have hHI := HI_le (2 * 4 + 0)
        have hG : gds 2 0 n0 S.1 v = true := by
          show (decide (v < S.1)) = true
          simp [hvL]
        rw [← hQ]
        refine ⟨rfl, fr, ?_, h_nu, kp⟩
        show τ12.2 r = some (.inr (.inr (5, [.ref (r + 1), .ref (r + 12), .int (nI (Rf (tkn 2 0 n0 S.1 v s a))), .int (Rp (tkn 2 0 n0 S.1 v s a)), .ref b, .int (nI n), .int tk0, .int (nI a), .int en0, .int (nI v), .ref (r + 20), .int (si ||| (1 : Int32) <<< ((nI v &&& 15) &&& 31))])))
        rw [show tkn 2 0 n0 S.1 v s a = s from if_pos hG]
        exact h_rd
      · skip
        refine Ev.aload_n rfl rfl ?_
        refine Ev.getf rfl rfl h_rd rfl ?_
        refine Ev.aload_n rfl rfl ?_
        refine Ev.getf rfl rfl h_rd rfl ?_
        refine Ev.cV1 rfl rfl h0 rfl rfl (by decide) ⟨(Nat.le_refl _), (Nat.le_refl _)⟩ (has_ok hS (nI v)) ?_
        rw [has_no (Or.inr (nI_le (Nat.le_of_not_lt hvL) (by omega)))]
        refine Ev.zeq (tgt := 112) rfl (by decide) (fun c88 => ?_) (fun c88 => absurd (by decide) c88)
        refine Ev.iconst (v := 0) rfl (by decide) ?_
        refine Ev.istore rfl rfl rfl ?_
        refine Ev.iload_n rfl rfl ?_
        refine Ev.bipush (v := 7) rfl (by decide) ?_
        refine Ev.jne (tgt := 151) rfl (by decide) (fun c118 => ?_) (fun c118 => absurd c118 (by decide))
        refine Ev.iload rfl rfl ?_
        refine Ev.zne (tgt := 161) rfl (by decide) (fun c153 => absurd (by decide) c153) (fun c153 => ?_)
        refine Ev.aload_n rfl rfl ?_
        refine Ev.iconst (v := 2) rfl (by decide) ?_
        refine Ev.xV1u rfl rfl h_rd rfl rfl (by decide) ⟨(Nat.le_refl _), (Nat.le_refl _)⟩ (note_ok (k := 2) h_rd hf4 (by decide)) (fun τ513 f9 h_rd => ?_)
        have h_nu := frm.cell f9 h_nu (by omega)
        have kp := fun q n0 n1 => (f9.2 q (by omega)).trans (kp q n0 n1)
        have fr := fr.step f9 (by omega) (by omega)
        refine Ev.aload_n rfl rfl ?_
        refine Ev.getf rfl rfl h_rd rfl ?_
        refine Ev.iload_n rfl rfl ?_
        refine Ev.aload_n rfl rfl ?_
        refine Ev.getf rfl rfl h_rd rfl ?_
        refine Ev.iastE (k := 0) rfl h_nu (rfl : (0 : Int32) = nI 0) ⟨(by omega), by decide⟩ (fun τ14 f1 h_nu => ?_)
        have h_rd := frm.cell f1 h_rd (by omega)
        have kp : (∀ q, q ≠ r → q ≠ r + 20 → τ14.2 q = σ.2 q) := fun q n0 n1 => (f1.2 q (by omega)).trans (kp q n0 n1)
        have fr := fr.step f1 (by omega) (by omega)
        refine Ev.aload_n rfl rfl ?_
        refine Ev.dup rfl rfl ?_
        refine Ev.getf rfl rfl h_rd rfl ?_
        refine Ev.iconst (v := 1) rfl (by decide) ?_
        refine Ev.aload_n rfl rfl ?_
        refine Ev.getf rfl rfl h_rd rfl ?_
        refine Ev.bipush (v := 15) rfl (by decide) ?_
        refine Ev.iand rfl ?_
        refine Ev.ishl rfl ?_
        refine Ev.ior rfl ?_
        refine Ev.putE rfl rfl h_rd rfl rfl rfl (Nat.le_of_ble_eq_true rfl) (fun τ15 f1 h_rd => ?_)
        replace h_rd : τ15.2 r = some (.inr (.inr (5, [(.ref (r + 1)), (.ref (r + 12)), (.int (nI (Rf (rnt s 2 a)))), (.int (Rp (rnt s 2 a))), (.ref b), (.int (nI n)), (.int tk0), (.int (nI a)), (.int en0), (.int (nI v)), (.ref (r + 20)), (.int (si ||| ((1 : Int32) <<< (((nI v) &&& (15 : Int32)) &&& 31))))]))) := h_rd
        have h_nu := frm.cell f1 h_nu (by omega)
        have kp : (∀ q, q ≠ r → q ≠ r + 20 → τ15.2 q = σ.2 q) := fun q n0 n1 => (f1.2 q (by omega)).trans (kp q n0 n1)
        have fr := fr.step f1 (by omega) (by omega)
        refine Ev.ret rfl rfl (Nat.le_refl _) (Nat.le_refl _) ?_
        have hLO := LO_le (2 * 4 + 0)
        have hHI := HI_le (2 * 4 + 0)
        have hG : ¬ gds 2 0 n0 S.1 v = true := by
          show ¬ (decide (v < S.1)) = true
          simp [hvL]
        rw [← hQ]
        refine ⟨rfl, fr, ?_, h_nu, kp⟩
        show τ15.2 r = some (.inr (.inr (5, [.ref (r + 1), .ref (r + 12), .int (nI (Rf (tkn 2 0 n0 S.1 v s a))), .int (Rp (tkn 2 0 n0 S.1 v s a)), .ref b, .int (nI n), .int tk0, .int (nI a), .int en0, .int (nI v), .ref (r + 20), .int (si ||| (1 : Int32) <<< ((nI v &&& 15) &&& 31))])))
        rw [show tkn 2 0 n0 S.1 v s a = (rnt s 2 a) from if_neg hG]
        exact h_rd
theorem tkN_71  {v n0 : Nat} {tk0 en0 si : Int32} (h_rd : σ.2 r = some (.inr (.inr (5, [.ref (r + 1), .ref (r + 12), .int (nI (Rf s)), .int (Rp s), .ref b, .int (nI n), .int tk0, .int (nI a), .int en0, .int (nI v), .ref (r + 20), .int si])))) {nu : Nat → Int32} (h_nu : σ.2 (r + 20) = some (.inl (0, 4, nu))) (hR : rdst Γ) (hS : isS σ (r + 1) S) (hn16 : S.1 ≤ 16) (hf4 : Rf s ≤ 4) (hv : v ≤ 999) (hb0 : n0 ≤ 999) (hn0 : nu 0 = nI n0) : RetX Γ m_Reader_takeNumber [.ref r, .int 7, .int 1] σ r (r + 21) none (fun τ => τ.2 r = some (.inr (.inr (5, [.ref (r + 1), .ref (r + 12), .int (nI (Rf (tkn 7 1 n0 S.1 v s a))), .int (Rp (tkn 7 1 n0 S.1 v s a)), .ref b, .int (nI n), .int tk0, .int (nI a), .int en0, .int (nI v), .ref (r + 20), .int (si ||| (1 : Int32) <<< ((nI v &&& 15) &&& 31))]))) ∧ τ.2 (r + 20) = some (.inl (0, 4, upd nu 1 (nI v))) ∧ ∀ q, q ≠ r → q ≠ r + 20 → τ.2 q = σ.2 q) := by
  obtain ⟨-, ⟨qhL, hL1, hL2⟩, ⟨qhH, hH1, hH2⟩⟩ := id hR
  obtain ⟨h0, h1, h2, h3, h4, h5, h6a, h7, h8, h9, h10⟩ := id hS
  unfold RetX
  generalize hQ : ((fun (r0 : Option Value) (τ : ex_S) => r0 = none ∧ frm σ τ r (r + 21) ∧ (fun τ : ex_S => τ.2 r = some (.inr (.inr (5, [.ref (r + 1), .ref (r + 12), .int (nI (Rf (tkn 7 1 n0 S.1 v s a))), .int (Rp (tkn 7 1 n0 S.1 v s a)), .ref b, .int (nI n), .int tk0, .int (nI a), .int en0, .int (nI v), .ref (r + 20), .int (si ||| (1 : Int32) <<< ((nI v &&& 15) &&& 31))]))) ∧ τ.2 (r + 20) = some (.inl (0, 4, upd nu 1 (nI v))) ∧ ∀ q, q ≠ r → q ≠ r + 20 → τ.2 q = σ.2 q) τ)) = Q
  refine Ret.start pm_121 rfl ?_
  have fr : frm σ σ r (r + 21) := frm.rf
  have kp : (∀ q, q ≠ r → q ≠ r + 20 → σ.2 q = σ.2 q) := fun _ _ _ => rfl
  refine Ev.iload_n rfl rfl ?_
  refine Ev.iconst (v := 4) rfl (by decide) ?_
  refine Ev.imul rfl ?_
  refine Ev.iload_n rfl rfl ?_
  refine Ev.iadd rfl ?_
  refine Ev.istore_n rfl rfl rfl ?_
  refine Ev.iload_n rfl rfl ?_
  refine Ev.zlt (tgt := 31) rfl (by decide) (fun c7 => absurd c7 (by decide)) (fun c7 => ?_)
  refine Ev.iload_n rfl rfl ?_
  refine Ev.iconst (v := 4) rfl (by decide) ?_
  refine Ev.jge (tgt := 31) rfl (by decide) (fun c12 => absurd (by decide) c12) (fun c12 => ?_)
  refine Ev.iload_n rfl rfl ?_
  refine Ev.gets (g := 2) rfl rfl ?_
  rw [hL1]
  refine Ev.alenS rfl hL2 rfl ?_
  refine Ev.jge (tgt := 31) rfl (by decide) (fun c20 => absurd (by decide) c20) (fun c20 => ?_)
  refine Ev.iload_n rfl rfl ?_
  refine Ev.gets (g := 3) rfl rfl ?_
  rw [hH1]
  refine Ev.alenS rfl hH2 rfl ?_
  refine Ev.jlt (tgt := 32) rfl (by decide) (fun c28 => ?_) (fun c28 => absurd (by decide) c28)
  refine Ev.aload_n rfl rfl ?_
  refine Ev.getf rfl rfl h_rd rfl ?_
  refine Ev.gets (g := 2) rfl rfl ?_
  rw [hL1]
  refine Ev.iload_n rfl rfl ?_
  refine Ev.ialdSN (k := 7 * 4 + 1) rfl hL2 (nq_add (a := 7 * 4) (b := 1) (nq_mul (a := 7) (b := 4) (rfl : (7 : Int32) = nI 7) (rfl : (4 : Int32) = nI 4)) (rfl : (1 : Int32) = nI 1)) ⟨(by omega), by decide⟩ ?_
  refine Ev.jlt (tgt := 60) rfl (by decide) (fun c41 => ?_) (fun c41 => ?_)
  · skip
    refine Ev.iconst (v := 0) rfl (by decide) ?_
    refine Ev.istore rfl rfl rfl ?_
    refine Ev.iload_n rfl rfl ?_
    refine Ev.iconst (v := 1) rfl (by decide) ?_
    refine Ev.jeq (tgt := 77) rfl (by decide) (fun c65 => absurd c65 (by decide)) (fun c65 => ?_)
    refine Ev.iload_n rfl rfl ?_
    refine Ev.iconst (v := 2) rfl (by decide) ?_
    refine Ev.jne (tgt := 115) rfl (by decide) (fun c70 => ?_) (fun c70 => absurd c70 (by decide))
    refine Ev.iload_n rfl rfl ?_
    refine Ev.bipush (v := 7) rfl (by decide) ?_
    refine Ev.jne (tgt := 151) rfl (by decide) (fun c118 => absurd (by decide) c118) (fun c118 => ?_)
    refine Ev.iload_n rfl rfl ?_
    refine Ev.iconst (v := 1) rfl (by decide) ?_
    refine Ev.jne (tgt := 151) rfl (by decide) (fun c123 => absurd (by decide) c123) (fun c123 => ?_)
    refine Ev.iload rfl rfl ?_
    refine Ev.zeq (tgt := 148) rfl (by decide) (fun c128 => ?_) (fun c128 => absurd (by decide) c128)
    refine Ev.iconst (v := 0) rfl (by decide) ?_
    refine Ev.istore rfl rfl rfl ?_
    refine Ev.iload rfl rfl ?_
    refine Ev.zne (tgt := 161) rfl (by decide) (fun c153 => absurd (by decide) c153) (fun c153 => ?_)
    refine Ev.aload_n rfl rfl ?_
    refine Ev.iconst (v := 2) rfl (by decide) ?_
    refine Ev.xV1u rfl rfl h_rd rfl rfl (by decide) ⟨(Nat.le_refl _), (Nat.le_refl _)⟩ (note_ok (k := 2) h_rd hf4 (by decide)) (fun τ501 f9 h_rd => ?_)
    have h_nu := frm.cell f9 h_nu (by omega)
    have kp := fun q n0 n1 => (f9.2 q (by omega)).trans (kp q n0 n1)
    have fr := fr.step f9 (by omega) (by omega)
    refine Ev.aload_n rfl rfl ?_
    refine Ev.getf rfl rfl h_rd rfl ?_
    refine Ev.iload_n rfl rfl ?_
    refine Ev.aload_n rfl rfl ?_
    refine Ev.getf rfl rfl h_rd rfl ?_
    refine Ev.iastE (k := 1) rfl h_nu (rfl : (1 : Int32) = nI 1) ⟨(by omega), by decide⟩ (fun τ2 f1 h_nu => ?_)
    have h_rd := frm.cell f1 h_rd (by omega)
    have kp : (∀ q, q ≠ r → q ≠ r + 20 → τ2.2 q = σ.2 q) := fun q n0 n1 => (f1.2 q (by omega)).trans (kp q n0 n1)
    have fr := fr.step f1 (by omega) (by omega)
    refine Ev.aload_n rfl rfl ?_
    refine Ev.dup rfl rfl ?_
    refine Ev.getf rfl rfl h_rd rfl ?_
    refine Ev.iconst (v := 1) rfl (by decide) ?_
    refine Ev.aload_n rfl rfl ?_
    refine Ev.getf rfl rfl h_rd rfl ?_
    refine Ev.bipush (v := 15) rfl (by decide) ?_
    refine Ev.iand rfl ?_
    refine Ev.ishl rfl ?_
    refine Ev.ior rfl ?_
    refine Ev.putE rfl rfl h_rd rfl rfl rfl (Nat.le_of_ble_eq_true rfl) (fun τ3 f1 h_rd => ?_)
    replace h_rd : τ3.2 r = some (.inr (.inr (5, [(.ref (r + 1)), (.ref (r + 12)), (.int (nI (Rf (rnt s 2 a)))), (.int (Rp (rnt s 2 a))), (.ref b), (.int (nI n)), (.int tk0), (.int (nI a)), (.int en0), (.int (nI v)), (.ref (r + 20)), (.int (si ||| ((1 : Int32) <<< (((nI v) &&& (15 : Int32)) &&& 31))))]))) := h_rd
    have h_nu := frm.cell f1 h_nu (by omega)
    have kp : (∀ q, q ≠ r → q ≠ r + 20 → τ3.2 q = σ.2 q) := fun q n0 n1 => (f1.2 q (by omega)).trans (kp q n0 n1)
    have fr := fr.step f1 (by omega) (by omega)
    refine Ev.ret rfl rfl (Nat.le_refl _) (Nat.le_refl _) ?_
    have hLO := LO_le (7 * 4 + 1)
    have hHI := HI_le (7 * 4 + 1)
    have hL1 : LOl.getD (7 * 4 + 1) 0 = 1 := rfl
    have hH1 : HIl.getD (7 * 4 + 1) 0 = 15 := rfl
    have hG : ¬ gds 7 1 n0 S.1 v = true := by
      show ¬ ((decide (1 ≤ v) && decide (v ≤ 15) && decide (n0 ≤ v))) = true
      have h1 : v < LOl.getD (7 * 4 + 1) 0 := (nI_ltI (by omega) (by omega)).mp c41
      have h1 : ¬ 1 ≤ v := by omega
      simp [h1]
    rw [← hQ]
    refine ⟨rfl, fr, ?_, h_nu, kp⟩
    show τ3.2 r = some (.inr (.inr (5, [.ref (r + 1), .ref (r + 12), .int (nI (Rf (tkn 7 1 n0 S.1 v s a))), .int (Rp (tkn 7 1 n0 S.1 v s a)), .ref b, .int (nI n), .int tk0, .int (nI a), .int en0, .int (nI v), .ref (r + 20), .int (si ||| (1 : Int32) <<< ((nI v &&& 15) &&& 31))])))
    rw [show tkn 7 1 n0 S.1 v s a = (rnt s 2 a) from if_neg hG]
    exact h_rd
  · skip
    refine Ev.aload_n rfl rfl ?_
    refine Ev.getf rfl rfl h_rd rfl ?_
    refine Ev.gets (g := 3) rfl rfl ?_
    rw [hH1]
    refine Ev.iload_n rfl rfl ?_
    refine Ev.ialdSN (k := 7 * 4 + 1) rfl hH2 (nq_add (a := 7 * 4) (b := 1) (nq_mul (a := 7) (b := 4) (rfl : (7 : Int32) = nI 7) (rfl : (4 : Int32) = nI 4)) (rfl : (1 : Int32) = nI 1)) ⟨(by omega), by decide⟩ ?_
    refine Ev.jgt (tgt := 60) rfl (by decide) (fun c53 => ?_) (fun c53 => ?_)
    · skip
      refine Ev.iconst (v := 0) rfl (by decide) ?_
      refine Ev.istore rfl rfl rfl ?_
      refine Ev.iload_n rfl rfl ?_
      refine Ev.iconst (v := 1) rfl (by decide) ?_
      refine Ev.jeq (tgt := 77) rfl (by decide) (fun c65 => absurd c65 (by decide)) (fun c65 => ?_)
      refine Ev.iload_n rfl rfl ?_
      refine Ev.iconst (v := 2) rfl (by decide) ?_
      refine Ev.jne (tgt := 115) rfl (by decide) (fun c70 => ?_) (fun c70 => absurd c70 (by decide))
      refine Ev.iload_n rfl rfl ?_
      refine Ev.bipush (v := 7) rfl (by decide) ?_
      refine Ev.jne (tgt := 151) rfl (by decide) (fun c118 => absurd (by decide) c118) (fun c118 => ?_)
      refine Ev.iload_n rfl rfl ?_
      refine Ev.iconst (v := 1) rfl (by decide) ?_
      refine Ev.jne (tgt := 151) rfl (by decide) (fun c123 => absurd (by decide) c123) (fun c123 => ?_)
      refine Ev.iload rfl rfl ?_
      refine Ev.zeq (tgt := 148) rfl (by decide) (fun c128 => ?_) (fun c128 => absurd (by decide) c128)
      refine Ev.iconst (v := 0) rfl (by decide) ?_
      refine Ev.istore rfl rfl rfl ?_
      refine Ev.iload rfl rfl ?_
      refine Ev.zne (tgt := 161) rfl (by decide) (fun c153 => absurd (by decide) c153) (fun c153 => ?_)
      refine Ev.aload_n rfl rfl ?_
      refine Ev.iconst (v := 2) rfl (by decide) ?_
      refine Ev.xV1u rfl rfl h_rd rfl rfl (by decide) ⟨(Nat.le_refl _), (Nat.le_refl _)⟩ (note_ok (k := 2) h_rd hf4 (by decide)) (fun τ504 f9 h_rd => ?_)
      have h_nu := frm.cell f9 h_nu (by omega)
      have kp := fun q n0 n1 => (f9.2 q (by omega)).trans (kp q n0 n1)
      have fr := fr.step f9 (by omega) (by omega)
      refine Ev.aload_n rfl rfl ?_
      refine Ev.getf rfl rfl h_rd rfl ?_
      refine Ev.iload_n rfl rfl ?_
      refine Ev.aload_n rfl rfl ?_
      refine Ev.getf rfl rfl h_rd rfl ?_
      refine Ev.iastE (k := 1) rfl h_nu (rfl : (1 : Int32) = nI 1) ⟨(by omega), by decide⟩ (fun τ5 f1 h_nu => ?_)
      have h_rd := frm.cell f1 h_rd (by omega)
      have kp : (∀ q, q ≠ r → q ≠ r + 20 → τ5.2 q = σ.2 q) := fun q n0 n1 => (f1.2 q (by omega)).trans (kp q n0 n1)
      have fr := fr.step f1 (by omega) (by omega)
      refine Ev.aload_n rfl rfl ?_
      refine Ev.dup rfl rfl ?_
      refine Ev.getf rfl rfl h_rd rfl ?_
      refine Ev.iconst (v := 1) rfl (by decide) ?_
      refine Ev.aload_n rfl rfl ?_
      refine Ev.getf rfl rfl h_rd rfl ?_
      refine Ev.bipush (v := 15) rfl (by decide) ?_
      refine Ev.iand rfl ?_
      refine Ev.ishl rfl ?_
      refine Ev.ior rfl ?_
      refine Ev.putE rfl rfl h_rd rfl rfl rfl (Nat.le_of_ble_eq_true rfl) (fun τ6 f1 h_rd => ?_)
      replace h_rd : τ6.2 r = some (.inr (.inr (5, [(.ref (r + 1)), (.ref (r + 12)), (.int (nI (Rf (rnt s 2 a)))), (.int (Rp (rnt s 2 a))), (.ref b), (.int (nI n)), (.int tk0), (.int (nI a)), (.int en0), (.int (nI v)), (.ref (r + 20)), (.int (si ||| ((1 : Int32) <<< (((nI v) &&& (15 : Int32)) &&& 31))))]))) := h_rd
      have h_nu := frm.cell f1 h_nu (by omega)
      have kp : (∀ q, q ≠ r → q ≠ r + 20 → τ6.2 q = σ.2 q) := fun q n0 n1 => (f1.2 q (by omega)).trans (kp q n0 n1)
      have fr := fr.step f1 (by omega) (by omega)
      refine Ev.ret rfl rfl (Nat.le_refl _) (Nat.le_refl _) ?_
      have hLO := LO_le (7 * 4 + 1)
      have hHI := HI_le (7 * 4 + 1)
      have hL1 : LOl.getD (7 * 4 + 1) 0 = 1 := rfl
      have hH1 : HIl.getD (7 * 4 + 1) 0 = 15 := rfl
      have hG : ¬ gds 7 1 n0 S.1 v = true := by
        show ¬ ((decide (1 ≤ v) && decide (v ≤ 15) && decide (n0 ≤ v))) = true
        have h1 : HIl.getD (7 * 4 + 1) 0 < v := (nI_ltI (by omega) (by omega)).mp c53
        have h1 : ¬ v ≤ 15 := by omega
        simp [h1]
      rw [← hQ]
      refine ⟨rfl, fr, ?_, h_nu, kp⟩
      show τ6.2 r = some (.inr (.inr (5, [.ref (r + 1), .ref (r + 12), .int (nI (Rf (tkn 7 1 n0 S.1 v s a))), .int (Rp (tkn 7 1 n0 S.1 v s a)), .ref b, .int (nI n), .int tk0, .int (nI a), .int en0, .int (nI v), .ref (r + 20), .int (si ||| (1 : Int32) <<< ((nI v &&& 15) &&& 31))])))
      rw [show tkn 7 1 n0 S.1 v s a = (rnt s 2 a) from if_neg hG]
      exact h_rd
    · skip
      refine Ev.iconst (v := 1) rfl (by decide) ?_
      refine Ev.goto (tgt := 61) rfl (by decide) ?_
      refine Ev.istore rfl rfl rfl ?_
      refine Ev.iload_n rfl rfl ?_
      refine Ev.iconst (v := 1) rfl (by decide) ?_
      refine Ev.jeq (tgt := 77) rfl (by decide) (fun c65 => absurd c65 (by decide)) (fun c65 => ?_)
      refine Ev.iload_n rfl rfl ?_
      refine Ev.iconst (v := 2) rfl (by decide) ?_
      refine Ev.jne (tgt := 115) rfl (by decide) (fun c70 => ?_) (fun c70 => absurd c70 (by decide))
      refine Ev.iload_n rfl rfl ?_
      refine Ev.bipush (v := 7) rfl (by decide) ?_
      refine Ev.jne (tgt := 151) rfl (by decide) (fun c118 => absurd (by decide) c118) (fun c118 => ?_)
      refine Ev.iload_n rfl rfl ?_
      refine Ev.iconst (v := 1) rfl (by decide) ?_
      refine Ev.jne (tgt := 151) rfl (by decide) (fun c123 => absurd (by decide) c123) (fun c123 => ?_)
      refine Ev.iload rfl rfl ?_
      refine Ev.zeq (tgt := 148) rfl (by decide) (fun c128 => absurd c128 (by decide)) (fun c128 => ?_)
      refine Ev.aload_n rfl rfl ?_
      refine Ev.getf rfl rfl h_rd rfl ?_
      refine Ev.aload_n rfl rfl ?_
      refine Ev.getf rfl rfl h_rd rfl ?_
      refine Ev.iconst (v := 0) rfl (by decide) ?_
      refine Ev.ialdN (k := 0) rfl h_nu (rfl : (0 : Int32) = nI 0) ⟨(by omega), by decide⟩ ?_
      rw [hn0]
      refine Ev.jlt (tgt := 148) rfl (by decide) (fun c141 => ?_) (fun c141 => ?_)
      · skip
        refine Ev.iconst (v := 0) rfl (by decide) ?_
        refine Ev.istore rfl rfl rfl ?_
        refine Ev.iload rfl rfl ?_
        refine Ev.zne (tgt := 161) rfl (by decide) (fun c153 => absurd (by decide) c153) (fun c153 => ?_)
        refine Ev.aload_n rfl rfl ?_
        refine Ev.iconst (v := 2) rfl (by decide) ?_
        refine Ev.xV1u rfl rfl h_rd rfl rfl (by decide) ⟨(Nat.le_refl _), (Nat.le_refl _)⟩ (note_ok (k := 2) h_rd hf4 (by decide)) (fun τ507 f9 h_rd => ?_)
        have h_nu := frm.cell f9 h_nu (by omega)
        have kp := fun q n0 n1 => (f9.2 q (by omega)).trans (kp q n0 n1)
        have fr := fr.step f9 (by omega) (by omega)
        refine Ev.aload_n rfl rfl ?_
        refine Ev.getf rfl rfl h_rd rfl ?_
        refine Ev.iload_n rfl rfl ?_
        refine Ev.aload_n rfl rfl ?_
        refine Ev.getf rfl rfl h_rd rfl ?_
        refine Ev.iastE (k := 1) rfl h_nu (rfl : (1 : Int32) = nI 1) ⟨(by omega), by decide⟩ (fun τ8 f1 h_nu => ?_)
        have h_rd := frm.cell f1 h_rd (by omega)
        have kp : (∀ q, q ≠ r → q ≠ r + 20 → τ8.2 q = σ.2 q) := fun q n0 n1 => (f1.2 q (by omega)).trans (kp q n0 n1)
        have fr := fr.step f1 (by omega) (by omega)
        refine Ev.aload_n rfl rfl ?_
        refine Ev.dup rfl rfl ?_
        refine Ev.getf rfl rfl h_rd rfl ?_
        refine Ev.iconst (v := 1) rfl (by decide) ?_
        refine Ev.aload_n rfl rfl ?_
        refine Ev.getf rfl rfl h_rd rfl ?_
        refine Ev.bipush (v := 15) rfl (by decide) ?_
        refine Ev.iand rfl ?_
        refine Ev.ishl rfl ?_
        refine Ev.ior rfl ?_
        refine Ev.putE rfl rfl h_rd rfl rfl rfl (Nat.le_of_ble_eq_true rfl) (fun τ9 f1 h_rd => ?_)
        replace h_rd : τ9.2 r = some (.inr (.inr (5, [(.ref (r + 1)), (.ref (r + 12)), (.int (nI (Rf (rnt s 2 a)))), (.int (Rp (rnt s 2 a))), (.ref b), (.int (nI n)), (.int tk0), (.int (nI a)), (.int en0), (.int (nI v)), (.ref (r + 20)), (.int (si ||| ((1 : Int32) <<< (((nI v) &&& (15 : Int32)) &&& 31))))]))) := h_rd
        have h_nu := frm.cell f1 h_nu (by omega)
        have kp : (∀ q, q ≠ r → q ≠ r + 20 → τ9.2 q = σ.2 q) := fun q n0 n1 => (f1.2 q (by omega)).trans (kp q n0 n1)
        have fr := fr.step f1 (by omega) (by omega)
        refine Ev.ret rfl rfl (Nat.le_refl _) (Nat.le_refl _) ?_
        have hLO := LO_le (7 * 4 + 1)
        have hHI := HI_le (7 * 4 + 1)
        have hL1 : LOl.getD (7 * 4 + 1) 0 = 1 := rfl
        have hH1 : HIl.getD (7 * 4 + 1) 0 = 15 := rfl
        have h1 : LOl.getD (7 * 4 + 1) 0 ≤ v := Nat.le_of_not_lt (fun h => c41 (nI_lt h (by omega)))
        have h2 : v ≤ HIl.getD (7 * 4 + 1) 0 := Nat.le_of_not_lt (fun h => c53 (nI_lt h (by omega)))
        have hG : ¬ gds 7 1 n0 S.1 v = true := by
          show ¬ ((decide (1 ≤ v) && decide (v ≤ 15) && decide (n0 ≤ v))) = true
          have h3 : ¬ n0 ≤ v := Nat.not_le.mpr ((nI_ltI (by omega) (by omega)).mp c141)
          simp [h3]
        rw [← hQ]
        refine ⟨rfl, fr, ?_, h_nu, kp⟩
        show τ9.2 r = some (.inr (.inr (5, [.ref (r + 1), .ref (r + 12), .int (nI (Rf (tkn 7 1 n0 S.1 v s a))), .int (Rp (tkn 7 1 n0 S.1 v s a)), .ref b, .int (nI n), .int tk0, .int (nI a), .int en0, .int (nI v), .ref (r + 20), .int (si ||| (1 : Int32) <<< ((nI v &&& 15) &&& 31))])))
        rw [show tkn 7 1 n0 S.1 v s a = (rnt s 2 a) from if_neg hG]
        exact h_rd
      · skip
        refine Ev.iconst (v := 1) rfl (by decide) ?_
        refine Ev.goto (tgt := 149) rfl (by decide) ?_
        refine Ev.istore rfl rfl rfl ?_
        refine Ev.iload rfl rfl ?_
        refine Ev.zne (tgt := 161) rfl (by decide) (fun c153 => ?_) (fun c153 => absurd c153 (by decide))
        refine Ev.aload_n rfl rfl ?_
        refine Ev.getf rfl rfl h_rd rfl ?_
        refine Ev.iload_n rfl rfl ?_
        refine Ev.aload_n rfl rfl ?_
        refine Ev.getf rfl rfl h_rd rfl ?_
        refine Ev.iastE (k := 1) rfl h_nu (rfl : (1 : Int32) = nI 1) ⟨(by omega), by decide⟩ (fun τ10 f1 h_nu => ?_)
        have h_rd := frm.cell f1 h_rd (by omega)
        have kp : (∀ q, q ≠ r → q ≠ r + 20 → τ10.2 q = σ.2 q) := fun q n0 n1 => (f1.2 q (by omega)).trans (kp q n0 n1)
        have fr := fr.step f1 (by omega) (by omega)
        refine Ev.aload_n rfl rfl ?_
        refine Ev.dup rfl rfl ?_
        refine Ev.getf rfl rfl h_rd rfl ?_
        refine Ev.iconst (v := 1) rfl (by decide) ?_
        refine Ev.aload_n rfl rfl ?_
        refine Ev.getf rfl rfl h_rd rfl ?_
        refine Ev.bipush (v := 15) rfl (by decide) ?_
        refine Ev.iand rfl ?_
        refine Ev.ishl rfl ?_
        refine Ev.ior rfl ?_
        refine Ev.putE rfl rfl h_rd rfl rfl rfl (Nat.le_of_ble_eq_true rfl) (fun τ11 f1 h_rd => ?_)
        replace h_rd : τ11.2 r = some (.inr (.inr (5, [(.ref (r + 1)), (.ref (r + 12)), (.int (nI (Rf s))), (.int (Rp s)), (.ref b), (.int (nI n)), (.int tk0), (.int (nI a)), (.int en0), (.int (nI v)), (.ref (r + 20)), (.int (si ||| ((1 : Int32) <<< (((nI v) &&& (15 : Int32)) &&& 31))))]))) := h_rd
        have h_nu := frm.cell f1 h_nu (by omega)
        have kp : (∀ q, q ≠ r → q ≠ r + 20 → τ11.2 q = σ.2 q) := fun q n0 n1 => (f1.2 q (by omega)).trans (kp q n0 n1)
        have fr := fr.step f1 (by omega) (by omega)
        refine Ev.ret rfl rfl (Nat.le_refl _) (Nat.le_refl _) ?_
        have hLO := LO_le (7 * 4 + 1)
        have hHI := HI_le (7 * 4 + 1)
        have hL1 : LOl.getD (7 * 4 + 1) 0 = 1 := rfl
        have hH1 : HIl.getD (7 * 4 + 1) 0 = 15 := rfl
        have h1 : LOl.getD (7 * 4 + 1) 0 ≤ v := Nat.le_of_not_lt (fun h => c41 (nI_lt h (by omega)))
        have h2 : v ≤ HIl.getD (7 * 4 + 1) 0 := Nat.le_of_not_lt (fun h => c53 (nI_lt h (by omega)))
        have hG : gds 7 1 n0 S.1 v = true := by
          show ((decide (1 ≤ v) && decide (v ≤ 15) && decide (n0 ≤ v))) = true
          have h3 : n0 ≤ v := Nat.le_of_not_lt (fun h => c141 (nI_lt h (by omega)))
          have h1 : 1 ≤ v := by omega
          have h2 : v ≤ 15 := by omega
          simp [h1, h2, h3]
        rw [← hQ]
        refine ⟨rfl, fr, ?_, h_nu, kp⟩
        show τ11.2 r = some (.inr (.inr (5, [.ref (r + 1), .ref (r + 12), .int (nI (Rf (tkn 7 1 n0 S.1 v s a))), .int (Rp (tkn 7 1 n0 S.1 v s a)), .ref b, .int (nI n), .int tk0, .int (nI a), .int en0, .int (nI v), .ref (r + 20), .int (si ||| (1 : Int32) <<< ((nI v &&& 15) &&& 31))])))
        rw [show tkn 7 1 n0 S.1 v s a = s from if_pos hG]
        exact h_rd
theorem tkN_ok {k j : Nat} {v n0 : Nat} {tk0 en0 si : Int32} (h_rd : σ.2 r = some (.inr (.inr (5, [.ref (r + 1), .ref (r + 12), .int (nI (Rf s)), .int (Rp s), .ref b, .int (nI n), .int tk0, .int (nI a), .int en0, .int (nI v), .ref (r + 20), .int si])))) {nu : Nat → Int32} (h_nu : σ.2 (r + 20) = some (.inl (0, 4, nu))) (hR : rdst Γ) (hS : isS σ (r + 1) S) (hn16 : S.1 ≤ 16) (hf4 : Rf s ≤ 4) (hv : v ≤ 999) (hb0 : n0 ≤ 999) (hk : k ≤ 20) (hj : j < 4) (hn0 : j = 0 ∨ nu 0 = nI n0) (hkj : k = 1 ∨ k = 2 ∨ k = 7 → j < 2) : RetX Γ m_Reader_takeNumber [.ref r, .int (nI k), .int (nI j)] σ r (r + 21) none (fun τ => τ.2 r = some (.inr (.inr (5, [.ref (r + 1), .ref (r + 12), .int (nI (Rf (tkn k j n0 S.1 v s a))), .int (Rp (tkn k j n0 S.1 v s a)), .ref b, .int (nI n), .int tk0, .int (nI a), .int en0, .int (nI v), .ref (r + 20), .int (si ||| (1 : Int32) <<< ((nI v &&& 15) &&& 31))]))) ∧ τ.2 (r + 20) = some (.inl (0, 4, upd nu j (nI v))) ∧ ∀ q, q ≠ r → q ≠ r + 20 → τ.2 q = σ.2 q) := by
  by_cases c1 : k = 1
  · subst c1
    have := hkj (Or.inl rfl)
    by_cases d : j = 0
    · subst d
      exact tkN_10 h_rd h_nu hR hS hn16 hf4 hv hb0
    · have e : j = 1 := by omega
      subst e
      exact tkN_11 h_rd h_nu hR hS hn16 hf4 hv hb0 (hn0.resolve_left d)
  · by_cases c2 : k = 2 ∧ j = 0
    · obtain ⟨e1, e2⟩ := c2
      subst e1; subst e2
      exact tkN_20 h_rd h_nu hR hS hn16 hf4 hv hb0
    · by_cases c3 : k = 7 ∧ j = 1
      · obtain ⟨e1, e2⟩ := c3
        subst e1; subst e2
        exact tkN_71 h_rd h_nu hR hS hn16 hf4 hv hb0 (hn0.resolve_left (by decide))
      · by_cases d2 : k = 2
        · subst d2
          exact tkN_g2 h_rd h_nu hR hS hn16 hf4 hv hb0 hj (fun h => c2 ⟨rfl, h⟩)
        · by_cases d7 : k = 7
          · subst d7
            exact tkN_g7 h_rd h_nu hR hS hn16 hf4 hv hb0 hj (fun h => c3 ⟨rfl, h⟩)
          · exact tkN_g h_rd h_nu hR hS hn16 hf4 hv hb0 hk hj ⟨c1, d2, d7⟩
end
end
