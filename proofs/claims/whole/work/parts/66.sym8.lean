/-! Printed by sym.py: plans and all that is told, copied and put. -/
noncomputable section
def T_n (T : Tol) (v : Nat) : Tol := (v, tF T, tQ T, tSn T, tPn T, tB T, tS T, tP T)
def T_f (T : Tol) (v : Int32) : Tol := (tN T, v, tQ T, tSn T, tPn T, tB T, tS T, tP T)
def T_q (T : Tol) (v : Int32) : Tol := (tN T, tF T, v, tSn T, tPn T, tB T, tS T, tP T)
def T_sn (T : Tol) (v : Nat) : Tol := (tN T, tF T, tQ T, v, tPn T, tB T, tS T, tP T)
def T_pn (T : Tol) (v : Nat) : Tol := (tN T, tF T, tQ T, tSn T, v, tB T, tS T, tP T)
def T_b (T : Tol) (v : Nat → Int32) : Tol := (tN T, tF T, tQ T, tSn T, tPn T, v, tS T, tP T)
def T_s (T : Tol) (v : Nat → Sch) : Tol := (tN T, tF T, tQ T, tSn T, tPn T, tB T, v, tP T)
def T_p (T : Tol) (v : Nat → Pln) : Tol := (tN T, tF T, tQ T, tSn T, tPn T, tB T, tS T, v)
def T_setS (T : Tol) (i : Nat) (S : Sch) : Tol := T_s T (fun k => if k = i then S else tS T k)
def T_setP (T : Tol) (i : Nat) (P : Pln) : Tol := T_p T (fun k => if k = i then P else tP T k)
def P_set (P : Pln) (k : Nat) (C : Les) : Pln := (P.1, fun j => if j = k then C else P.2 j)
theorem isP_size {σ τ : ex_S} {p n : Nat} {P : Pln} (h : isP σ p P) (f1 : frm σ τ p (p + 1)) (q : τ.2 p = some (.inr (.inr (3, [.int (nI n), .ref (p + 1)])))) : isP τ p (n, P.2) := by
  obtain ⟨h0, ⟨f, h1, h2⟩, h3⟩ := h
  exact ⟨q, ⟨f, f1.cell h1 (by omega), h2⟩, fun k hk => (h3 k hk).frm f1 (by omega)⟩
theorem isP_set {σ τ : ex_S} {p k : Nat} {P : Pln} {C : Les} (h : isP σ p P) (f1 : frm σ τ (p + 2 + k) (p + 2 + k + 1)) (q : isL τ (p + 2 + k) C) (hk : k < 6) : isP τ p (P_set P k C) := by
  obtain ⟨h0, ⟨f, h1, h2⟩, h3⟩ := h
  refine ⟨f1.cell h0 (by omega), ⟨f, f1.cell h1 (by omega), h2⟩, fun j hj => ?_⟩
  by_cases e : j = k
  · subst e
    show isL τ _ ((P_set P j C).2 j)
    rw [show (P_set P j C).2 j = C from if_pos rfl]
    exact q
  · show isL τ _ ((P_set P k C).2 j)
    rw [show (P_set P k C).2 j = P.2 j from if_neg e]
    exact (h3 j hj).frm f1 (by omega)
theorem isP_ext {σ : ex_S} {p : Nat} {P P' : Pln} (h : isP σ p P') (h1 : P'.1 = P.1) (h2 : ∀ k, k < 6 → P'.2 k = P.2 k) : isP σ p P := by
  obtain ⟨a, b, c⟩ := h
  exact ⟨by rw [← h1]; exact a, b, fun k hk => by rw [← h2 k hk]; exact c k hk⟩
theorem fo_set {P : Pln} {F : Nat → Pln → Pln} : ∀ (n i : Nat) (z : Pln), (∀ k z, i ≤ k → k < i + n → F k z = P_set z k (P.2 k)) → (fo F n i z).1 = z.1 ∧ ∀ q, (fo F n i z).2 q = if i ≤ q ∧ q < i + n then P.2 q else z.2 q := by
  intro n
  induction n with
  | zero => intro i z _; exact ⟨rfl, fun q => by rw [fo_zero, if_neg (by omega)]⟩
  | succ n ih =>
    intro i z hF
    obtain ⟨a, b⟩ := ih (i + 1) (F i z) (fun k z h1 h2 => hF k z (by omega) (by omega))
    rw [fo_succ]
    have e := hF i z (Nat.le_refl _) (by omega)
    refine ⟨by rw [a, e]; rfl, fun q => ?_⟩
    rw [b q, e]
    by_cases h : q = i
    · subst h
      rw [if_neg (by omega), if_pos (by omega)]
      exact if_pos rfl
    · rw [show (P_set z i (P.2 i)).2 q = z.2 q from if_neg h]
      by_cases h2 : i ≤ q ∧ q < i + (n + 1)
      · rw [if_pos h2, if_pos (by omega)]
      · rw [if_neg h2, if_neg (by omega)]
theorem isT_n {σ τ : ex_S} {q : Nat} {T : Tol} {v : Nat} (h : isT σ q T) (f1 : frm σ τ q (q + 1)) (hc : τ.2 q = some (.inr (.inr (1, [.ref (q + 1), .int (nI v), .int (tF T), .int (tQ T), .ref (q + 2), .int (nI (tSn T)), .ref (q + 3), .int (nI (tPn T))])))) : isT τ q (T_n T v) := by
  obtain ⟨h0, h1, ⟨f, h2, h3⟩, ⟨g, h4, h5⟩, h6, h7⟩ := h
  exact ⟨hc, f1.cell h1 (by omega), ⟨f, f1.cell h2 (by omega), h3⟩, ⟨g, f1.cell h4 (by omega), h5⟩, fun k hk => (h6 k hk).frm f1 (by omega), fun k hk => (h7 k hk).frm f1 (by omega)⟩
theorem isT_f {σ τ : ex_S} {q : Nat} {T : Tol} {v : Int32} (h : isT σ q T) (f1 : frm σ τ q (q + 1)) (hc : τ.2 q = some (.inr (.inr (1, [.ref (q + 1), .int (nI (tN T)), .int v, .int (tQ T), .ref (q + 2), .int (nI (tSn T)), .ref (q + 3), .int (nI (tPn T))])))) : isT τ q (T_f T v) := by
  obtain ⟨h0, h1, ⟨f, h2, h3⟩, ⟨g, h4, h5⟩, h6, h7⟩ := h
  exact ⟨hc, f1.cell h1 (by omega), ⟨f, f1.cell h2 (by omega), h3⟩, ⟨g, f1.cell h4 (by omega), h5⟩, fun k hk => (h6 k hk).frm f1 (by omega), fun k hk => (h7 k hk).frm f1 (by omega)⟩
theorem isT_q {σ τ : ex_S} {q : Nat} {T : Tol} {v : Int32} (h : isT σ q T) (f1 : frm σ τ q (q + 1)) (hc : τ.2 q = some (.inr (.inr (1, [.ref (q + 1), .int (nI (tN T)), .int (tF T), .int v, .ref (q + 2), .int (nI (tSn T)), .ref (q + 3), .int (nI (tPn T))])))) : isT τ q (T_q T v) := by
  obtain ⟨h0, h1, ⟨f, h2, h3⟩, ⟨g, h4, h5⟩, h6, h7⟩ := h
  exact ⟨hc, f1.cell h1 (by omega), ⟨f, f1.cell h2 (by omega), h3⟩, ⟨g, f1.cell h4 (by omega), h5⟩, fun k hk => (h6 k hk).frm f1 (by omega), fun k hk => (h7 k hk).frm f1 (by omega)⟩
theorem isT_sn {σ τ : ex_S} {q : Nat} {T : Tol} {v : Nat} (h : isT σ q T) (f1 : frm σ τ q (q + 1)) (hc : τ.2 q = some (.inr (.inr (1, [.ref (q + 1), .int (nI (tN T)), .int (tF T), .int (tQ T), .ref (q + 2), .int (nI v), .ref (q + 3), .int (nI (tPn T))])))) : isT τ q (T_sn T v) := by
  obtain ⟨h0, h1, ⟨f, h2, h3⟩, ⟨g, h4, h5⟩, h6, h7⟩ := h
  exact ⟨hc, f1.cell h1 (by omega), ⟨f, f1.cell h2 (by omega), h3⟩, ⟨g, f1.cell h4 (by omega), h5⟩, fun k hk => (h6 k hk).frm f1 (by omega), fun k hk => (h7 k hk).frm f1 (by omega)⟩
theorem isT_pn {σ τ : ex_S} {q : Nat} {T : Tol} {v : Nat} (h : isT σ q T) (f1 : frm σ τ q (q + 1)) (hc : τ.2 q = some (.inr (.inr (1, [.ref (q + 1), .int (nI (tN T)), .int (tF T), .int (tQ T), .ref (q + 2), .int (nI (tSn T)), .ref (q + 3), .int (nI v)])))) : isT τ q (T_pn T v) := by
  obtain ⟨h0, h1, ⟨f, h2, h3⟩, ⟨g, h4, h5⟩, h6, h7⟩ := h
  exact ⟨hc, f1.cell h1 (by omega), ⟨f, f1.cell h2 (by omega), h3⟩, ⟨g, f1.cell h4 (by omega), h5⟩, fun k hk => (h6 k hk).frm f1 (by omega), fun k hk => (h7 k hk).frm f1 (by omega)⟩
theorem isT_b {σ τ : ex_S} {q : Nat} {T : Tol} {v : Nat → Int32} (h : isT σ q T) (f1 : frm σ τ (q + 1) (q + 1 + 1)) (hc : τ.2 (q + 1) = some (.inl (1, 600, v))) : isT τ q (T_b T v) := by
  obtain ⟨h0, h1, ⟨f, h2, h3⟩, ⟨g, h4, h5⟩, h6, h7⟩ := h
  exact ⟨f1.cell h0 (by omega), hc, ⟨f, f1.cell h2 (by omega), h3⟩, ⟨g, f1.cell h4 (by omega), h5⟩, fun k hk => (h6 k hk).frm f1 (by omega), fun k hk => (h7 k hk).frm f1 (by omega)⟩
theorem isT_setS {σ τ : ex_S} {q i : Nat} {T : Tol} {S : Sch} (h : isT σ q T) (hi : i < 3) (f1 : frm σ τ (q + 4 + 19 * i) (q + 4 + 19 * i + 11)) (hc : isS τ (q + 4 + 19 * i) S) : isT τ q (T_setS T i S) := by
  obtain ⟨h0, h1, ⟨f, h2, h3⟩, ⟨g, h4, h5⟩, h6, h7⟩ := h
  refine ⟨f1.cell h0 (by omega), f1.cell h1 (by omega), ⟨f, f1.cell h2 (by omega), h3⟩, ⟨g, f1.cell h4 (by omega), h5⟩, fun k hk => ?_, fun k hk => (h7 k hk).frm f1 (by omega)⟩
  by_cases e : k = i
  · subst e
    rw [show tS (T_setS T k S) k = S from if_pos rfl]
    exact hc
  · rw [show tS (T_setS T i S) k = tS T k from if_neg e]
    exact (h6 k hk).frm f1 (by omega)
theorem isT_setP {σ τ : ex_S} {q i : Nat} {T : Tol} {P : Pln} (h : isT σ q T) (hi : i < 3) (f1 : frm σ τ (q + 15 + 19 * i) (q + 15 + 19 * i + 8)) (hc : isP τ (q + 15 + 19 * i) P) : isT τ q (T_setP T i P) := by
  obtain ⟨h0, h1, ⟨f, h2, h3⟩, ⟨g, h4, h5⟩, h6, h7⟩ := h
  refine ⟨f1.cell h0 (by omega), f1.cell h1 (by omega), ⟨f, f1.cell h2 (by omega), h3⟩, ⟨g, f1.cell h4 (by omega), h5⟩, fun k hk => (h6 k hk).frm f1 (by omega), fun k hk => ?_⟩
  by_cases e : k = i
  · subst e
    rw [show tP (T_setP T k P) k = P from if_pos rfl]
    exact hc
  · rw [show tP (T_setP T i P) k = tP T k from if_neg e]
    exact (h7 k hk).frm f1 (by omega)
theorem isT_ext {σ : ex_S} {q : Nat} {T T' : Tol} (h : isT σ q T') (h1 : tN T' = tN T) (h2 : tF T' = tF T) (h3 : tQ T' = tQ T) (h4 : tSn T' = tSn T) (h5 : tPn T' = tPn T) (h6 : tB T' = tB T) (h7 : ∀ k, k < 3 → tS T' k = tS T k) (h8 : ∀ k, k < 3 → tP T' k = tP T k) : isT σ q T := by
  obtain ⟨a0, a1, a2, a3, a6, a7⟩ := h
  exact ⟨by rw [← h1, ← h2, ← h3, ← h4, ← h5]; exact a0, by rw [← h6]; exact a1, a2, a3, fun k hk => by rw [← h7 k hk]; exact a6 k hk, fun k hk => by rw [← h8 k hk]; exact a7 k hk⟩
theorem max_nI {a b : Nat} (ha : a < 1000) (hb : b < 1000) : (if nI a < nI b then nI b else nI a) = nI (if a < b then b else a) := by
  by_cases h : a < b
  · rw [if_pos h, if_pos (nI_lt h (by omega))]
  · rw [if_neg h, if_neg (nI_nlt (by omega) (by omega))]
section
variable {Γ : ex_G} {σ : ex_S} {x q a p y : Nat} {S : Sch} {T : Tol} {P : Pln} {g A : Nat → Int32}
def F_copyP_10 (P D : Pln) : Nat → Pln → Pln := fun k z => P_set z k (P.2 k)
theorem copyP_ok {b : Nat} {D : Pln} (hD : isP σ p D) (hB0 : isP σ b P) (hab : p + 8 ≤ b ∨ b + 8 ≤ p) : RetX Γ m_Plan_copyFrom [.ref p, .ref b] σ p (p + 8) none (fun τ => isP τ p P) := by
  unfold RetX
  generalize hQ : (fun (r : Option Value) (τ : ex_S) => r = none ∧ frm σ τ p (p + 8) ∧ (fun τ => isP τ p P) τ) = Q
  have fr : frm σ σ p (p + 8) := frm.rf
  have hB := hB0
  obtain ⟨b0, ⟨bf, b1, b2⟩, b3⟩ := id hB
  obtain ⟨d0, ⟨df, d1, d2⟩, d3⟩ := id hD
  refine Ret.start pm_105 rfl ?_
  refine Ev.aload_n rfl rfl ?_
  refine Ev.aload_n rfl rfl ?_
  refine Ev.getf rfl rfl b0 rfl ?_
  refine Ev.putE rfl rfl d0 rfl rfl rfl (Nat.le_of_ble_eq_true rfl) (fun τ1 f1 q1 => ?_)
  have hD : isP τ1 p (P.1, D.2) := isP_size hD f1 q1
  have fr := fr.step f1 (by omega) (by omega)
  have hB := hB0.frm fr (by omega)
  obtain ⟨b0, ⟨bf, b1, b2⟩, b3⟩ := id hB
  obtain ⟨d0, ⟨df, d1, d2⟩, d3⟩ := id hD
  refine Ev.iconst (v := 0) rfl (by decide) ?_
  refine Ev.istore_n rfl rfl rfl ?_
  refine Ev.fg (L := [some (.ref p), some (.ref b), some (.int (nI 0))]) ?_ (gs rfl (gs rfl (gs (congrArg Value.int (rfl : (0 : Int32) = nI 0).symm) gz)))
  refine lp (fun (k : Nat) (z : Pln) => ∀ τ' : ex_S, frm σ τ' p (p + 8) → isP τ' p z → Ev Γ 0 0 m_Plan_copyFrom 0 0 10 [some (.ref p), some (.ref b), some (.int (nI k))] [] τ' Q) (F_copyP_10 P D) (6) (fun k z hk hx => ?_) (6) 0 (P.1, D.2) (by omega) ?_ τ1 fr hD
  · skip
    intro τ' fr hD
    have hB := hB0.frm fr (by omega)
    obtain ⟨b0, ⟨bf, b1, b2⟩, b3⟩ := id hB
    obtain ⟨d0, ⟨df, d1, d2⟩, d3⟩ := id hD
    refine Ev.iload_n rfl rfl ?_
    refine Ev.bipush (v := 6) rfl (by decide) ?_
    refine Ev.jge (tgt := 37) rfl (by decide) (fun c13 => absurd (nI_lt hk (by omega)) c13) (fun c13 => ?_)
    refine Ev.aload_n rfl rfl ?_
    refine Ev.getf rfl rfl d0 rfl ?_
    refine Ev.iload_n rfl rfl ?_
    refine Ev.aaldN (k := k) rfl d1 rfl rfl ⟨(by omega), by decide⟩ (d2 k (by omega)) ?_
    refine Ev.aload_n rfl rfl ?_
    refine Ev.getf rfl rfl b0 rfl ?_
    refine Ev.iload_n rfl rfl ?_
    refine Ev.aaldN (k := k) rfl b1 rfl rfl ⟨(by omega), by decide⟩ (b2 k (by omega)) ?_
    refine Ev.xV1u rfl rfl (d3 k (by omega)) rfl rfl (by decide) ⟨(Nat.le_refl _), (Nat.le_refl _)⟩ (copyL_ok (d3 k (by omega)) (b3 k (by omega)) (by omega)) (fun τ2 f1 q1 => ?_)
    have hD : isP τ2 p (P_set z k (P.2 k)) := isP_set hD f1 q1 (by omega)
    have fr := fr.step f1 (by omega) (by omega)
    have hB := hB0.frm fr (by omega)
    obtain ⟨b0, ⟨bf, b1, b2⟩, b3⟩ := id hB
    obtain ⟨d0, ⟨df, d1, d2⟩, d3⟩ := id hD
    refine Ev.iinc (d := 1) rfl rfl rfl (by decide) rfl ?_
    refine Ev.goto (tgt := 10) rfl (by decide) ?_
    have hF : (F_copyP_10 P D) k z = P_set z k (P.2 k) := by rfl
    rw [hF] at hx
    exact (hx τ2 fr hD).fg (gs rfl (gs rfl (gs (congrArg Value.int (show nI (k + 1) = (nI k) + (1 : Int32) from (nq_to (a := k + 1) (nq_add (a := k) (b := 1) rfl (rfl : (1 : Int32) = nI 1)) (by omega)).symm)) gz)))
  · skip
    intro τ' fr hD
    have hB := hB0.frm fr (by omega)
    obtain ⟨b0, ⟨bf, b1, b2⟩, b3⟩ := id hB
    obtain ⟨d0, ⟨df, d1, d2⟩, d3⟩ := id hD
    refine Ev.iload_n rfl rfl ?_
    refine Ev.bipush (v := 6) rfl (by decide) ?_
    refine Ev.jge (tgt := 37) rfl (by decide) (fun c13 => ?_) (fun c13 => absurd c13 (nI_nlt (Nat.le_refl _) (by omega)))
    refine Ev.ret rfl rfl (Nat.le_refl _) (Nat.le_refl _) ?_
    rw [← hQ]
    refine ⟨rfl, fr, isP_ext hD ?_ ?_⟩
    · exact (fo_set (P := P) 6 0 (P.1, D.2) (fun k z _ _ => rfl)).1
    · intro k hk
      rw [(fo_set (P := P) (F := F_copyP_10 P D) 6 0 (P.1, D.2) (fun k z _ _ => rfl)).2 k, if_pos (by omega)]
def K_putS (T : Tol) (i : Nat) (S0 : Sch) : Tol := T_sn (T_setS T i S0) (if tSn T < i + 1 then i + 1 else tSn T)
theorem putS_ok {b i : Nat} {S0 : Sch} (hT : isT σ q T) (hB0 : isS σ b S0) (hi : i < 3) (h3 : tSn T ≤ 3) (hb : b + 11 ≤ q ∨ q + 61 ≤ b) : RetX Γ m_State_putSchool [(.ref q), (.int (nI i)), (.ref b)] σ q (q + 61) none (fun τ => isT τ q (K_putS T i S0)) := by
  unfold RetX
  generalize hQ : (fun (r : Option Value) (τ : ex_S) => r = none ∧ frm σ τ q (q + 61) ∧ (fun τ : ex_S => isT τ q (K_putS T i S0)) τ) = Q
  refine Ret.start pm_68 rfl ?_
  have fr : frm σ σ q (q + 61) := frm.rf
  have hB := hB0.frm fr (by omega)
  obtain ⟨t0, t1, ⟨ts, t2, t3⟩, ⟨tp, t4, t5⟩, t6, t7⟩ := id hT
  refine Ev.iload_n rfl rfl ?_
  refine Ev.zlt (tgt := 33) rfl (by decide) (fun c1 => absurd c1 (nI_pos (by omega))) (fun c1 => ?_)
  refine Ev.iload_n rfl rfl ?_
  refine Ev.iconst (v := 3) rfl (by decide) ?_
  refine Ev.jge (tgt := 33) rfl (by decide) (fun c6 => absurd (nI_lt (b := 3) hi (by omega)) c6) (fun c6 => ?_)
  refine Ev.aload_n rfl rfl ?_
  refine Ev.getf rfl rfl t0 rfl ?_
  refine Ev.iload_n rfl rfl ?_
  refine Ev.aaldN (k := i) rfl t2 rfl rfl ⟨(by omega), by decide⟩ (t3 i (by omega)) ?_
  refine Ev.aload_n rfl rfl ?_
  refine Ev.xV1u rfl rfl (t6 i (by omega)).1 rfl rfl (by decide) ⟨(Nat.le_refl _), (Nat.le_refl _)⟩ (copyS_ok (t6 i (by omega)) hB (by omega)) (fun τ1 f1 q1 => ?_)
  have hT : isT τ1 q (T_setS T i S0) := isT_setS hT (by omega) f1 q1
  have fr := fr.step f1 (by omega) (by omega)
  have hB := hB0.frm fr (by omega)
  obtain ⟨t0, t1, ⟨ts, t2, t3⟩, ⟨tp, t4, t5⟩, t6, t7⟩ := id hT
  refine Ev.aload_n rfl rfl ?_
  refine Ev.aload_n rfl rfl ?_
  refine Ev.getf rfl rfl t0 rfl ?_
  refine Ev.iload_n rfl rfl ?_
  refine Ev.iconst (v := 1) rfl (by decide) ?_
  refine Ev.iadd rfl ?_
  refine Ev.mmax rfl rfl rfl (Nat.le_of_ble_eq_true rfl) ⟨(Nat.le_refl _), (Nat.le_refl _)⟩ ?_
  rw [nI_1, show tSn (T_setS T i S0) = tSn T from rfl, max_nI (a := tSn T) (b := i + 1) (by omega) (by omega)]
  refine Ev.putE rfl rfl t0 rfl rfl rfl (Nat.le_of_ble_eq_true rfl) (fun τ2 f1 q1 => ?_)
  have hT : isT τ2 q (T_sn (T_setS T i S0) (if tSn T < i + 1 then i + 1 else tSn T)) := isT_sn hT f1 q1
  have fr := fr.step f1 (by omega) (by omega)
  have hB := hB0.frm fr (by omega)
  obtain ⟨t0, t1, ⟨ts, t2, t3⟩, ⟨tp, t4, t5⟩, t6, t7⟩ := id hT
  refine Ev.ret rfl rfl (Nat.le_refl _) (Nat.le_refl _) ?_
  have hK : (K_putS T i S0) = T_sn (T_setS T i S0) (if tSn T < i + 1 then i + 1 else tSn T) := by rfl
  rw [← hQ]
  dsimp only
  rw [hK]
  exact ⟨rfl, fr, hT⟩
def K_putP (T : Tol) (i : Nat) (S0 : Pln) : Tol := T_pn (T_setP T i S0) (if tPn T < i + 1 then i + 1 else tPn T)
theorem putP_ok {b i : Nat} {S0 : Pln} (hT : isT σ q T) (hB0 : isP σ b S0) (hi : i < 3) (h3 : tPn T ≤ 3) (hb : b + 8 ≤ q ∨ q + 61 ≤ b) : RetX Γ m_State_putPlan [(.ref q), (.int (nI i)), (.ref b)] σ q (q + 61) none (fun τ => isT τ q (K_putP T i S0)) := by
  unfold RetX
  generalize hQ : (fun (r : Option Value) (τ : ex_S) => r = none ∧ frm σ τ q (q + 61) ∧ (fun τ : ex_S => isT τ q (K_putP T i S0)) τ) = Q
  refine Ret.start pm_69 rfl ?_
  have fr : frm σ σ q (q + 61) := frm.rf
  have hB := hB0.frm fr (by omega)
  obtain ⟨t0, t1, ⟨ts, t2, t3⟩, ⟨tp, t4, t5⟩, t6, t7⟩ := id hT
  refine Ev.iload_n rfl rfl ?_
  refine Ev.zlt (tgt := 33) rfl (by decide) (fun c1 => absurd c1 (nI_pos (by omega))) (fun c1 => ?_)
  refine Ev.iload_n rfl rfl ?_
  refine Ev.iconst (v := 3) rfl (by decide) ?_
  refine Ev.jge (tgt := 33) rfl (by decide) (fun c6 => absurd (nI_lt (b := 3) hi (by omega)) c6) (fun c6 => ?_)
  refine Ev.aload_n rfl rfl ?_
  refine Ev.getf rfl rfl t0 rfl ?_
  refine Ev.iload_n rfl rfl ?_
  refine Ev.aaldN (k := i) rfl t4 rfl rfl ⟨(by omega), by decide⟩ (t5 i (by omega)) ?_
  refine Ev.aload_n rfl rfl ?_
  refine Ev.xV1u rfl rfl (t7 i (by omega)).1 rfl rfl (by decide) ⟨(Nat.le_refl _), (Nat.le_refl _)⟩ (copyP_ok (t7 i (by omega)) hB (by omega)) (fun τ1 f1 q1 => ?_)
  have hT : isT τ1 q (T_setP T i S0) := isT_setP hT (by omega) f1 q1
  have fr := fr.step f1 (by omega) (by omega)
  have hB := hB0.frm fr (by omega)
  obtain ⟨t0, t1, ⟨ts, t2, t3⟩, ⟨tp, t4, t5⟩, t6, t7⟩ := id hT
  refine Ev.aload_n rfl rfl ?_
  refine Ev.aload_n rfl rfl ?_
  refine Ev.getf rfl rfl t0 rfl ?_
  refine Ev.iload_n rfl rfl ?_
  refine Ev.iconst (v := 1) rfl (by decide) ?_
  refine Ev.iadd rfl ?_
  refine Ev.mmax rfl rfl rfl (Nat.le_of_ble_eq_true rfl) ⟨(Nat.le_refl _), (Nat.le_refl _)⟩ ?_
  rw [nI_1, show tPn (T_setP T i S0) = tPn T from rfl, max_nI (a := tPn T) (b := i + 1) (by omega) (by omega)]
  refine Ev.putE rfl rfl t0 rfl rfl rfl (Nat.le_of_ble_eq_true rfl) (fun τ2 f1 q1 => ?_)
  have hT : isT τ2 q (T_pn (T_setP T i S0) (if tPn T < i + 1 then i + 1 else tPn T)) := isT_pn hT f1 q1
  have fr := fr.step f1 (by omega) (by omega)
  have hB := hB0.frm fr (by omega)
  obtain ⟨t0, t1, ⟨ts, t2, t3⟩, ⟨tp, t4, t5⟩, t6, t7⟩ := id hT
  refine Ev.ret rfl rfl (Nat.le_refl _) (Nat.le_refl _) ?_
  have hK : (K_putP T i S0) = T_pn (T_setP T i S0) (if tPn T < i + 1 then i + 1 else tPn T) := by rfl
  rw [← hQ]
  dsimp only
  rw [hK]
  exact ⟨rfl, fr, hT⟩
theorem copyT_ext {U T : Tol} {F : Nat → Tol → Tol} (hF : ∀ k z, F k z = T_setP (T_setS z k (tS U k)) k (tP U k)) : ∀ (n i : Nat) (z : Tol), tN (fo F n i z) = tN z ∧ tF (fo F n i z) = tF z ∧ tQ (fo F n i z) = tQ z ∧ tSn (fo F n i z) = tSn z ∧ tPn (fo F n i z) = tPn z ∧ tB (fo F n i z) = tB z ∧ (∀ q, tS (fo F n i z) q = if i ≤ q ∧ q < i + n then tS U q else tS z q) ∧ ∀ q, tP (fo F n i z) q = if i ≤ q ∧ q < i + n then tP U q else tP z q := by
  intro n
  induction n with
  | zero => intro i z; exact ⟨rfl, rfl, rfl, rfl, rfl, rfl, fun q => by rw [fo_zero, if_neg (by omega)], fun q => by rw [fo_zero, if_neg (by omega)]⟩
  | succ n ih =>
    intro i z
    obtain ⟨a1, a2, a3, a4, a5, a6, a7, a8⟩ := ih (i + 1) (F i z)
    rw [fo_succ]
    refine ⟨by rw [a1, hF]; rfl, by rw [a2, hF]; rfl, by rw [a3, hF]; rfl, by rw [a4, hF]; rfl, by rw [a5, hF]; rfl, by rw [a6, hF]; rfl, fun q => ?_, fun q => ?_⟩
    · rw [a7 q, hF]
      by_cases h : q = i
      · subst h
        rw [if_neg (by omega), if_pos (by omega)]
        exact if_pos rfl
      · rw [show tS (T_setP (T_setS z i (tS U i)) i (tP U i)) q = tS z q from if_neg h]
        by_cases h2 : i ≤ q ∧ q < i + (n + 1)
        · rw [if_pos h2, if_pos (by omega)]
        · rw [if_neg h2, if_neg (by omega)]
    · rw [a8 q, hF]
      by_cases h : q = i
      · subst h
        rw [if_neg (by omega), if_pos (by omega)]
        exact if_pos rfl
      · rw [show tP (T_setP (T_setS z i (tS U i)) i (tP U i)) q = tP z q from if_neg h]
        by_cases h2 : i ≤ q ∧ q < i + (n + 1)
        · rw [if_pos h2, if_pos (by omega)]
        · rw [if_neg h2, if_neg (by omega)]
def F_copyT_58 (T U : Tol) : Nat → Tol → Tol := fun k z => T_setP (T_setS z k (tS U k)) k (tP U k)
theorem copyT_ok {b : Nat} {U : Tol} (hT : isT σ q T) (hU0 : isT σ b U) (hfit : ∀ i, i < 600 → fits .byte (.int (tB U i)) = true) (hab : q + 61 ≤ b ∨ b + 61 ≤ q) : RetX Γ m_State_copyFrom [.ref q, .ref b] σ q (q + 61) none (fun τ => isT τ q U) := by
  unfold RetX
  generalize hQ : (fun (r : Option Value) (τ : ex_S) => r = none ∧ frm σ τ q (q + 61) ∧ (fun τ => isT τ q U) τ) = Q
  have fr : frm σ σ q (q + 61) := frm.rf
  have hU := hU0
  obtain ⟨u0, u1, ⟨us, u2, u3⟩, ⟨up, u4, u5⟩, u6, u7⟩ := id hU
  obtain ⟨t0, t1, ⟨ts, t2, t3⟩, ⟨tp, t4, t5⟩, t6, t7⟩ := id hT
  refine Ret.start pm_64 rfl ?_
  refine Ev.aload_n rfl rfl ?_
  refine Ev.getf rfl rfl u0 rfl ?_
  refine Ev.iconst (v := 0) rfl (by decide) ?_
  refine Ev.aload_n rfl rfl ?_
  refine Ev.getf rfl rfl t0 rfl ?_
  refine Ev.iconst (v := 0) rfl (by decide) ?_
  refine Ev.sipush (v := 600) rfl (by decide) ?_
  refine Ev.copyE rfl rfl u1 t1 rfl rfl (rfl : _ = nI 600) (by decide) hfit rfl (Nat.le_of_ble_eq_true rfl) (fun τ1 f1 q1 => ?_)
  have hT : isT τ1 q (T_b T (tB U)) := isT_b hT f1 q1
  have fr := fr.step f1 (by omega) (by omega)
  have hU := hU0.frm fr (by omega)
  obtain ⟨u0, u1, ⟨us, u2, u3⟩, ⟨up, u4, u5⟩, u6, u7⟩ := id hU
  obtain ⟨t0, t1, ⟨ts, t2, t3⟩, ⟨tp, t4, t5⟩, t6, t7⟩ := id hT
  refine Ev.aload_n rfl rfl ?_
  refine Ev.aload_n rfl rfl ?_
  refine Ev.getf rfl rfl u0 rfl ?_
  refine Ev.putE rfl rfl t0 rfl rfl rfl (Nat.le_of_ble_eq_true rfl) (fun τ2 f1 q1 => ?_)
  have hT : isT τ2 q (T_n (T_b T (tB U)) (tN U)) := isT_n hT f1 q1
  have fr := fr.step f1 (by omega) (by omega)
  have hU := hU0.frm fr (by omega)
  obtain ⟨u0, u1, ⟨us, u2, u3⟩, ⟨up, u4, u5⟩, u6, u7⟩ := id hU
  obtain ⟨t0, t1, ⟨ts, t2, t3⟩, ⟨tp, t4, t5⟩, t6, t7⟩ := id hT
  refine Ev.aload_n rfl rfl ?_
  refine Ev.aload_n rfl rfl ?_
  refine Ev.getf rfl rfl u0 rfl ?_
  refine Ev.putE rfl rfl t0 rfl rfl rfl (Nat.le_of_ble_eq_true rfl) (fun τ3 f1 q1 => ?_)
  have hT : isT τ3 q (T_f (T_n (T_b T (tB U)) (tN U)) (tF U)) := isT_f hT f1 q1
  have fr := fr.step f1 (by omega) (by omega)
  have hU := hU0.frm fr (by omega)
  obtain ⟨u0, u1, ⟨us, u2, u3⟩, ⟨up, u4, u5⟩, u6, u7⟩ := id hU
  obtain ⟨t0, t1, ⟨ts, t2, t3⟩, ⟨tp, t4, t5⟩, t6, t7⟩ := id hT
  refine Ev.aload_n rfl rfl ?_
  refine Ev.aload_n rfl rfl ?_
  refine Ev.getf rfl rfl u0 rfl ?_
  refine Ev.putE rfl rfl t0 rfl rfl rfl (Nat.le_of_ble_eq_true rfl) (fun τ4 f1 q1 => ?_)
  have hT : isT τ4 q (T_q (T_f (T_n (T_b T (tB U)) (tN U)) (tF U)) (tQ U)) := isT_q hT f1 q1
  have fr := fr.step f1 (by omega) (by omega)
  have hU := hU0.frm fr (by omega)
  obtain ⟨u0, u1, ⟨us, u2, u3⟩, ⟨up, u4, u5⟩, u6, u7⟩ := id hU
  obtain ⟨t0, t1, ⟨ts, t2, t3⟩, ⟨tp, t4, t5⟩, t6, t7⟩ := id hT
  refine Ev.aload_n rfl rfl ?_
  refine Ev.aload_n rfl rfl ?_
  refine Ev.getf rfl rfl u0 rfl ?_
  refine Ev.putE rfl rfl t0 rfl rfl rfl (Nat.le_of_ble_eq_true rfl) (fun τ5 f1 q1 => ?_)
  have hT : isT τ5 q (T_sn (T_q (T_f (T_n (T_b T (tB U)) (tN U)) (tF U)) (tQ U)) (tSn U)) := isT_sn hT f1 q1
  have fr := fr.step f1 (by omega) (by omega)
  have hU := hU0.frm fr (by omega)
  obtain ⟨u0, u1, ⟨us, u2, u3⟩, ⟨up, u4, u5⟩, u6, u7⟩ := id hU
  obtain ⟨t0, t1, ⟨ts, t2, t3⟩, ⟨tp, t4, t5⟩, t6, t7⟩ := id hT
  refine Ev.aload_n rfl rfl ?_
  refine Ev.aload_n rfl rfl ?_
  refine Ev.getf rfl rfl u0 rfl ?_
  refine Ev.putE rfl rfl t0 rfl rfl rfl (Nat.le_of_ble_eq_true rfl) (fun τ6 f1 q1 => ?_)
  have hT : isT τ6 q (T_pn (T_sn (T_q (T_f (T_n (T_b T (tB U)) (tN U)) (tF U)) (tQ U)) (tSn U)) (tPn U)) := isT_pn hT f1 q1
  have fr := fr.step f1 (by omega) (by omega)
  have hU := hU0.frm fr (by omega)
  obtain ⟨u0, u1, ⟨us, u2, u3⟩, ⟨up, u4, u5⟩, u6, u7⟩ := id hU
  obtain ⟨t0, t1, ⟨ts, t2, t3⟩, ⟨tp, t4, t5⟩, t6, t7⟩ := id hT
  refine Ev.iconst (v := 0) rfl (by decide) ?_
  refine Ev.istore_n rfl rfl rfl ?_
  refine Ev.fg (L := [some (.ref q), some (.ref b), some (.int (nI 0))]) ?_ (gs rfl (gs rfl (gs (congrArg Value.int (rfl : (0 : Int32) = nI 0).symm) gz)))
  refine lp (fun (k : Nat) (z : Tol) => ∀ τ' : ex_S, frm σ τ' q (q + 61) → isT τ' q z → Ev Γ 0 0 m_State_copyFrom 0 0 58 [some (.ref q), some (.ref b), some (.int (nI k))] [] τ' Q) (F_copyT_58 T U) (3) (fun k z hk hx => ?_) (3) 0 (T_pn (T_sn (T_q (T_f (T_n (T_b T (tB U)) (tN U)) (tF U)) (tQ U)) (tSn U)) (tPn U)) (by omega) ?_ τ6 fr hT
  · skip
    intro τ' fr hT
    have hU := hU0.frm fr (by omega)
    obtain ⟨u0, u1, ⟨us, u2, u3⟩, ⟨up, u4, u5⟩, u6, u7⟩ := id hU
    obtain ⟨t0, t1, ⟨ts, t2, t3⟩, ⟨tp, t4, t5⟩, t6, t7⟩ := id hT
    refine Ev.iload_n rfl rfl ?_
    refine Ev.iconst (v := 3) rfl (by decide) ?_
    refine Ev.jge (tgt := 99) rfl (by decide) (fun c60 => absurd (nI_lt hk (by omega)) c60) (fun c60 => ?_)
    refine Ev.aload_n rfl rfl ?_
    refine Ev.getf rfl rfl t0 rfl ?_
    refine Ev.iload_n rfl rfl ?_
    refine Ev.aaldN (k := k) rfl t2 rfl rfl ⟨(by omega), by decide⟩ (t3 k (by omega)) ?_
    refine Ev.aload_n rfl rfl ?_
    refine Ev.getf rfl rfl u0 rfl ?_
    refine Ev.iload_n rfl rfl ?_
    refine Ev.aaldN (k := k) rfl u2 rfl rfl ⟨(by omega), by decide⟩ (u3 k (by omega)) ?_
    refine Ev.xV1u rfl rfl (t6 k (by omega)).1 rfl rfl (by decide) ⟨(Nat.le_refl _), (Nat.le_refl _)⟩ (copyS_ok (t6 k (by omega)) (u6 k (by omega)) (by omega)) (fun τ7 f1 q1 => ?_)
    have hT : isT τ7 q (T_setS z k (tS U k)) := isT_setS hT (by omega) f1 q1
    have fr := fr.step f1 (by omega) (by omega)
    have hU := hU0.frm fr (by omega)
    obtain ⟨u0, u1, ⟨us, u2, u3⟩, ⟨up, u4, u5⟩, u6, u7⟩ := id hU
    obtain ⟨t0, t1, ⟨ts, t2, t3⟩, ⟨tp, t4, t5⟩, t6, t7⟩ := id hT
    refine Ev.aload_n rfl rfl ?_
    refine Ev.getf rfl rfl t0 rfl ?_
    refine Ev.iload_n rfl rfl ?_
    refine Ev.aaldN (k := k) rfl t4 rfl rfl ⟨(by omega), by decide⟩ (t5 k (by omega)) ?_
    refine Ev.aload_n rfl rfl ?_
    refine Ev.getf rfl rfl u0 rfl ?_
    refine Ev.iload_n rfl rfl ?_
    refine Ev.aaldN (k := k) rfl u4 rfl rfl ⟨(by omega), by decide⟩ (u5 k (by omega)) ?_
    refine Ev.xV1u rfl rfl (t7 k (by omega)).1 rfl rfl (by decide) ⟨(Nat.le_refl _), (Nat.le_refl _)⟩ (copyP_ok (t7 k (by omega)) (u7 k (by omega)) (by omega)) (fun τ8 f1 q1 => ?_)
    have hT : isT τ8 q (T_setP (T_setS z k (tS U k)) k (tP U k)) := isT_setP hT (by omega) f1 q1
    have fr := fr.step f1 (by omega) (by omega)
    have hU := hU0.frm fr (by omega)
    obtain ⟨u0, u1, ⟨us, u2, u3⟩, ⟨up, u4, u5⟩, u6, u7⟩ := id hU
    obtain ⟨t0, t1, ⟨ts, t2, t3⟩, ⟨tp, t4, t5⟩, t6, t7⟩ := id hT
    refine Ev.iinc (d := 1) rfl rfl rfl (by decide) rfl ?_
    refine Ev.goto (tgt := 58) rfl (by decide) ?_
    have hF : (F_copyT_58 T U) k z = T_setP (T_setS z k (tS U k)) k (tP U k) := by rfl
    rw [hF] at hx
    exact (hx τ8 fr hT).fg (gs rfl (gs rfl (gs (congrArg Value.int (show nI (k + 1) = (nI k) + (1 : Int32) from (nq_to (a := k + 1) (nq_add (a := k) (b := 1) rfl (rfl : (1 : Int32) = nI 1)) (by omega)).symm)) gz)))
  · skip
    intro τ' fr hT
    have hU := hU0.frm fr (by omega)
    obtain ⟨u0, u1, ⟨us, u2, u3⟩, ⟨up, u4, u5⟩, u6, u7⟩ := id hU
    obtain ⟨t0, t1, ⟨ts, t2, t3⟩, ⟨tp, t4, t5⟩, t6, t7⟩ := id hT
    refine Ev.iload_n rfl rfl ?_
    refine Ev.iconst (v := 3) rfl (by decide) ?_
    refine Ev.jge (tgt := 99) rfl (by decide) (fun c60 => ?_) (fun c60 => absurd c60 (nI_nlt (Nat.le_refl _) (by omega)))
    refine Ev.ret rfl rfl (Nat.le_refl _) (Nat.le_refl _) ?_
    obtain ⟨a1, a2, a3, a4, a5, a6, a7, a8⟩ := copyT_ext (U := U) (T := T) (F := F_copyT_58 T U) (fun k z => rfl) 3 0 (T_pn (T_sn (T_q (T_f (T_n (T_b T (tB U)) (tN U)) (tF U)) (tQ U)) (tSn U)) (tPn U))
    rw [← hQ]
    exact ⟨rfl, fr, isT_ext hT a1 a2 a3 a4 a5 a6 (fun k hk => by rw [a7 k, if_pos (by omega)]) (fun k hk => by rw [a8 k, if_pos (by omega)])⟩
end
end
