/-! The reference: a teacher who is ill, the public method (printed by sym.py). -/
noncomputable section
theorem bcn_leN {m : Nat} : ∀ {t}, bcn m t ≤ t := by
  intro t
  induction t with
  | zero => exact Nat.le_refl _
  | succ t ih =>
    show bcn m t + _ ≤ _
    split <;> omega
theorem ways_le {n L : Nat} (hn : n ≤ 6) (hL : L ≤ 6) : (n + 1) ^ L ≤ 117649 := by
  have h1 : (n + 1) ^ L ≤ 7 ^ L := Nat.pow_le_pow_left (by omega) L
  have h2 : (7 : Nat) ^ L ≤ 7 ^ 6 := Nat.pow_le_pow_right (by decide) hL
  have h3 : (7 : Nat) ^ 6 = 117649 := by decide
  omega
theorem ill_at {S : Sch} {P : Pln} {tc : Int32} {g vl : Nat → Int32} (hn : S.1 ≤ 16) (hgo : goP S P) {k : Nat} (hk : k < bcn (lst S P tc) S.1) : ∃ l, l < S.1 ∧ (lst S P tc).testBit l = true ∧ bcn (lst S P tc) l = k ∧ (K_m_loses S P tc g vl).2 k = nI l := by
  obtain ⟨l, h1, h2, h3⟩ := bcn_surj S.1 hk
  have := (loses_sem (g := g) (vl := vl) hn hgo).2 l h1 h2
  rw [h3] at this
  exact ⟨l, h1, h2, h3, this⟩
theorem ill_los {S : Sch} {P : Pln} {tc : Int32} {g vl : Nat → Int32} (hn : S.1 ≤ 16) (hgo : goP S P) : ∀ k, k < bcn (lst S P tc) S.1 → (K_m_loses S P tc g vl).2 k = nI ((K_m_loses S P tc g vl).2 k).toNatClampNeg ∧ ((K_m_loses S P tc g vl).2 k).toNatClampNeg < S.1 := by
  intro k hk
  obtain ⟨l, h1, -, -, h4⟩ := ill_at (g := g) (vl := vl) hn hgo hk
  rw [h4, nI_clamp (by omega)]
  exact ⟨rfl, h1⟩
/-- the lost ones by their places -/
def lω (S : Sch) (P : Pln) (tc : Int32) (g vl : Nat → Int32) (i : Nat) : Nat := ((K_m_loses S P tc g vl).2 i).toNatClampNeg
theorem lω_at {S : Sch} {P : Pln} {tc : Int32} {g vl : Nat → Int32} (hn : S.1 ≤ 16) (hgo : goP S P) {k : Nat} (hk : k < bcn (lst S P tc) S.1) : lω S P tc g vl k < S.1 ∧ (lst S P tc).testBit (lω S P tc g vl k) = true ∧ bcn (lst S P tc) (lω S P tc g vl k) = k := by
  obtain ⟨l, h1, h2, h3, h4⟩ := ill_at (g := g) (vl := vl) hn hgo hk
  have e : lω S P tc g vl k = l := by
    unfold lω
    rw [h4, nI_clamp (by omega)]
  rw [e]
  exact ⟨h1, h2, h3⟩
theorem ill_ap {S : Sch} {P : Pln} {tc : Int32} {g vl : Nat → Int32} (hn : S.1 ≤ 16) (hgo : goP S P) {k : Nat} (hk : k < P.1) : apart (lω S P tc g vl) (bas P tc k) (bcn (lst S P tc) S.1) := by
  refine ⟨fun i hi => ?_, fun i i' hi hi' e => ?_⟩
  · obtain ⟨a1, a2, a3⟩ := lω_at (g := g) (vl := vl) hn hgo hi
    refine ⟨by omega, ?_⟩
    unfold bas
    by_cases c : P.2 k 1 = tc
    · rw [if_pos c, Nat.zero_testBit]
    · rw [if_neg c]
      cases h : (sN P k).testBit (lω S P tc g vl i) with
      | false => rfl
      | true => exact absurd ⟨k, hk, h, c⟩ (lst_tb.mp a2).2.2
  · have a := (lω_at (g := g) (vl := vl) hn hgo hi).2.2
    have b := (lω_at (g := g) (vl := vl) hn hgo hi').2.2
    rw [e, b] at a
    exact a.symm
theorem ill_sem {S : Sch} {P : Pln} {tc : Int32} {r0 : Nat} {g vl vt G : Nat → Int32} (hn : S.1 ≤ 16) (h6 : P.1 ≤ 6) (hgo : goP S P) (h16 : bcn (lst S P tc) S.1 ≤ 6) (hr0 : r0 < 2 ^ 31) :
    ((K_m_spreads S P tc r0 (bcn (lst S P tc) S.1) G (K_m_loses S P tc g vl).2 vt).1 = 0 ∧ ¬ ∀ k, k < P.1 → okI S P tc (lω S P tc g vl) (bcn (lst S P tc) S.1) k (Qk P.1 r0 k (bcn (lst S P tc) S.1))) ∨ ((K_m_spreads S P tc r0 (bcn (lst S P tc) S.1) G (K_m_loses S P tc g vl).2 vt).1 = 1 ∧ (∀ k, k < P.1 → okI S P tc (lω S P tc g vl) (bcn (lst S P tc) S.1) k (Qk P.1 r0 k (bcn (lst S P tc) S.1))) ∧ ∀ k, k < P.1 → (K_m_spreads S P tc r0 (bcn (lst S P tc) S.1) G (K_m_loses S P tc g vl).2 vt).2 k = nI (bas P tc k ||| LO (lω S P tc g vl) (Qk P.1 r0 k (bcn (lst S P tc) S.1)) (bcn (lst S P tc) S.1))) :=
  spreads_sem hn h6 hgo h16 hr0 (fun i hi => ill_los hn hgo i hi) (fun k hk => ill_ap hn hgo hk)
theorem bas_lt {S : Sch} {P : Pln} {tc : Int32} (hn : S.1 ≤ 16) (hgo : goP S P) {k : Nat} (hk : k < P.1) : bas P tc k < 2 ^ S.1 := by
  unfold bas
  split
  · exact Nat.two_pow_pos _
  · exact (sN_eq hn hgo hk).2
theorem spr_inS {S : Sch} {P : Pln} {tc : Int32} {r0 : Nat} {g vl vt G : Nat → Int32} (hn : S.1 ≤ 16) (h6 : P.1 ≤ 6) (hgo : goP S P) (h16 : bcn (lst S P tc) S.1 ≤ 6) (hr0 : r0 < 2 ^ 31) (c : ¬ (K_m_spreads S P tc r0 (bcn (lst S P tc) S.1) G (K_m_loses S P tc g vl).2 vt).1 = 0) : ∀ k, k < P.1 → inS S ((K_m_spreads S P tc r0 (bcn (lst S P tc) S.1) G (K_m_loses S P tc g vl).2 vt).2 k) := by
  intro k hk
  rcases ill_sem (g := g) (vl := vl) (vt := vt) (G := G) hn h6 hgo h16 hr0 with h | ⟨-, -, h⟩
  · exact absurd h.1 c
  · exact ⟨_, Nat.or_lt_two_pow (bas_lt hn hgo hk) (LO_lt _ (fun i hi => (lω_at hn hgo hi).1)), h k hk⟩

section
variable {Γ : ex_G} {σ : ex_S} {x q a p y : Nat} {S : Sch} {T : Tol} {P : Pln} {g A : Nat → Int32}
def F_m_ill_65 (T : Tol) (i j : Nat) (t : Nat) (g : Nat → Int32) (v_lostOnes : Nat → Int32) (v_tried : Nat → Int32) (v_row : Nat → Int32) : Nat → Int32 → Int32 := fun k z => z * ((nI ((tP T j).1)) + (1 : Int32))
def F_m_ill_98 (T : Tol) (i j : Nat) (t : Nat) (g : Nat → Int32) (v_lostOnes : Nat → Int32) (v_tried : Nat → Int32) (v_row : Nat → Int32) : Nat → (Int32 × (Nat → Int32)) → (Int32 × (Nat → Int32)) := fun k z => if ((K_m_spreads (tS T i) (tP T j) (nI t) k (bcn (lst (tS T i) (tP T j) (nI t)) (tS T i).1) (K_m_loses (tS T i) (tP T j) (nI t) g v_lostOnes).1 (K_m_loses (tS T i) (tP T j) (nI t) g v_lostOnes).2 z.2).1) = (0 : Int32) then (z.1, (K_m_spreads (tS T i) (tP T j) (nI t) k (bcn (lst (tS T i) (tP T j) (nI t)) (tS T i).1) (K_m_loses (tS T i) (tP T j) (nI t) g v_lostOnes).1 (K_m_loses (tS T i) (tP T j) (nI t) g v_lostOnes).2 z.2).2) else (if z.1 < (K_m_ltried (tS T i) (tP T j) ((K_m_spreads (tS T i) (tP T j) (nI t) k (bcn (lst (tS T i) (tP T j) (nI t)) (tS T i).1) (K_m_loses (tS T i) (tP T j) (nI t) g v_lostOnes).1 (K_m_loses (tS T i) (tP T j) (nI t) g v_lostOnes).2 z.2).2)) then (K_m_ltried (tS T i) (tP T j) ((K_m_spreads (tS T i) (tP T j) (nI t) k (bcn (lst (tS T i) (tP T j) (nI t)) (tS T i).1) (K_m_loses (tS T i) (tP T j) (nI t) g v_lostOnes).1 (K_m_loses (tS T i) (tP T j) (nI t) g v_lostOnes).2 z.2).2), (K_m_spreads (tS T i) (tP T j) (nI t) k (bcn (lst (tS T i) (tP T j) (nI t)) (tS T i).1) (K_m_loses (tS T i) (tP T j) (nI t) g v_lostOnes).1 (K_m_loses (tS T i) (tP T j) (nI t) g v_lostOnes).2 z.2).2) else (z.1, (K_m_spreads (tS T i) (tP T j) (nI t) k (bcn (lst (tS T i) (tP T j) (nI t)) (tS T i).1) (K_m_loses (tS T i) (tP T j) (nI t) g v_lostOnes).1 (K_m_loses (tS T i) (tP T j) (nI t) g v_lostOnes).2 z.2).2))
def K_m_ill (T : Tol) (i j : Nat) (t : Nat) (g : Nat → Int32) (v_lostOnes : Nat → Int32) (v_tried : Nat → Int32) (v_row : Nat → Int32) : Int32 × (Nat → Int32) × (Nat → Int32) × (Nat → Int32) := if (6 : Int32) < (((K_m_loses (tS T i) (tP T j) (nI t) g v_lostOnes).1) 21) then ((-1 : Int32), (K_m_loses (tS T i) (tP T j) (nI t) g v_lostOnes).1, (K_m_loses (tS T i) (tP T j) (nI t) g v_lostOnes).2, v_tried) else ((fo (F_m_ill_98 T i j t g v_lostOnes v_tried v_row) (((tP T j).1 + 1) ^ (bcn (lst (tS T i) (tP T j) (nI t)) (tS T i).1)) 0 ((0 : Int32), v_tried)).1, (K_m_loses (tS T i) (tP T j) (nI t) g v_lostOnes).1, (K_m_loses (tS T i) (tP T j) (nI t) g v_lostOnes).2, (fo (F_m_ill_98 T i j t g v_lostOnes v_tried v_row) (((tP T j).1 + 1) ^ (bcn (lst (tS T i) (tP T j) (nI t)) (tS T i).1)) 0 ((0 : Int32), v_tried)).2)
theorem m_ill_some (hM : isM σ y g A) (hT : mT A 0 T) (hw : wT T)  {v_lostOnes : Nat → Int32} (m_lostOnes : σ.2 (y + 11) = some (.inl (0, 16, v_lostOnes))) {v_tried : Nat → Int32} (m_tried : σ.2 (y + 8) = some (.inl (0, 6, v_tried))) {v_row : Nat → Int32} (m_row : σ.2 (y + 9) = some (.inl (0, 16, v_row))) {u v : Int32} {i j : Nat} (hg : gd T u v i j) {t : Nat} (ht : t < (tS T i).2.1) : RetX Γ m_M_ill [(.ref y), .int u, .int v, (.int (nI t))] σ y (y + 17) (some (.int ((K_m_ill T i j t g v_lostOnes v_tried v_row).1))) (fun τ => τ.2 y = some (.inr (.inr (10, mo y ((K_m_ill T i j t g v_lostOnes v_tried v_row).2.1)))) ∧ τ.2 (y + 11) = some (.inl (0, 16, (K_m_ill T i j t g v_lostOnes v_tried v_row).2.2.1)) ∧ τ.2 (y + 8) = some (.inl (0, 6, (K_m_ill T i j t g v_lostOnes v_tried v_row).2.2.2)) ∧ (∀ q, q ≠ y → q ≠ y + 8 → q ≠ y + 11 → τ.2 q = σ.2 q)) := by
  obtain ⟨m0, m1⟩ := id hM
  have hgd := hg
  obtain ⟨rfl, hi, rfl, hj, hgo⟩ := hg
  have hi3 : i < 3 := by have := hw.2.1; omega
  have hj3 : j < 3 := by have := hw.2.2.1; omega
  have hwS := hw.2.2.2.1 i hi
  have hwP := hw.2.2.2.2 j hj
  have hn16 := hwS.1
  have hn5 := hwS.2.1
  have h6 := hwP.1
  have hS := hT.s hi
  have hP := hT.p hj
  have hs : 610 + 120 * i + 120 ≤ 4500 := by omega
  unfold RetX
  generalize hQ : (fun (r : Option Value) (τ : ex_S) => r = some (.int ((K_m_ill T i j t g v_lostOnes v_tried v_row).1)) ∧ frm σ τ y (y + 17) ∧ (fun τ : ex_S => τ.2 y = some (.inr (.inr (10, mo y ((K_m_ill T i j t g v_lostOnes v_tried v_row).2.1)))) ∧ τ.2 (y + 11) = some (.inl (0, 16, (K_m_ill T i j t g v_lostOnes v_tried v_row).2.2.1)) ∧ τ.2 (y + 8) = some (.inl (0, 6, (K_m_ill T i j t g v_lostOnes v_tried v_row).2.2.2)) ∧ (∀ q, q ≠ y → q ≠ y + 8 → q ≠ y + 11 → τ.2 q = σ.2 q)) τ) = Q
  refine Ret.start pm_242 rfl ?_
  have fr : frm σ σ y (y + 17) := frm.rf
  have kp : (∀ q, q ≠ y → q ≠ y + 8 → q ≠ y + 11 → σ.2 q = σ.2 q) := fun _ _ _ _ => rfl
  have hM : isM _ y g A := ⟨m0, m1⟩
  refine Ev.aload_n rfl rfl ?_
  refine Ev.iload_n rfl rfl ?_
  refine Ev.iload_n rfl rfl ?_
  refine Ev.cV2 rfl rfl m0 rfl rfl (by decide) ⟨(Nat.le_refl _), (Nat.le_refl _)⟩ (m_goes_yes hM hT hw hgd) ?_
  refine Ev.zeq (tgt := 31) rfl (by decide) (fun c6 => absurd c6 (by decide)) (fun c6 => ?_)
  refine Ev.iload_n rfl rfl ?_
  refine Ev.iconst (v := 0) rfl (by decide) ?_
  refine Ev.aload_n rfl rfl ?_
  refine Ev.getf rfl rfl m0 rfl ?_
  refine Ev.iconst (v := 0) rfl (by decide) ?_
  refine Ev.iload_n rfl rfl ?_
  refine Ev.cS2 rfl rfl rfl (by decide) ⟨(Nat.le_refl _), (Nat.le_refl _)⟩ (m_pl0_ok i) ?_
  refine Ev.iconst (v := 1) rfl (by decide) ?_
  refine Ev.iadd rfl ?_
  refine Ev.ialdN (k := 610 + 120 * i + 1) rfl m1 (nq_to (a := 610 + 120 * i + 1) (nq_add (a := 610 + 120 * i) (b := 1) rfl (rfl : (1 : Int32) = nI 1)) (by omega)) ⟨(by omega), by decide⟩ ?_
  rw [hS.2.1]
  refine Ev.iconst (v := 1) rfl (by decide) ?_
  refine Ev.isub rfl ?_
  refine Ev.cS3 rfl rfl rfl (by decide) ⟨(Nat.le_refl _), (Nat.le_refl _)⟩ (m_in_y (K_in_yes ht (by omega))) ?_
  refine Ev.zne (tgt := 33) rfl (by decide) (fun c28 => ?_) (fun c28 => absurd c28 (by decide))
  refine Ev.iconst (v := 0) rfl (by decide) ?_
  refine Ev.iload_n rfl rfl ?_
  refine Ev.cS2 rfl rfl rfl (by decide) ⟨(Nat.le_refl _), (Nat.le_refl _)⟩ (m_pl0_ok i) ?_
  refine Ev.istore rfl rfl rfl ?_
  refine Ev.aload_n rfl rfl ?_
  refine Ev.iload rfl rfl ?_
  refine Ev.iload_n rfl rfl ?_
  refine Ev.iload_n rfl rfl ?_
  refine Ev.xV3u rfl rfl m0 rfl rfl (by decide) ⟨(Nat.le_refl _), (Nat.le_refl _)⟩ (m_loses_ok hM hS hs hwS hP hj3 hwP hgo m_lostOnes _) (fun τ1 f1 q1 => ?_)
  obtain ⟨m0, m_lostOnes, k1⟩ := q1
  have m1 := (k1 _ (by omega) (by omega)).trans m1
  have m_tried := (k1 _ (by omega) (by omega)).trans m_tried
  have m_row := (k1 _ (by omega) (by omega)).trans m_row
  have kp : (∀ q, q ≠ y → q ≠ y + 8 → q ≠ y + 11 → τ1.2 q = σ.2 q) := fun q n0 n1 n2 => (k1 q (by omega) (by omega)).trans (kp q n0 n1 n2)
  have fr := fr.step f1 (by omega) (by omega)
  have hM : isM _ y ((K_m_loses (tS T i) (tP T j) (nI t) g v_lostOnes).1) A := ⟨m0, m1⟩
  have hlo := (loses_sem (tc := nI t) (g := g) (vl := v_lostOnes) hn16 hgo).1
  have hlb := @bcn_leN (lst (tS T i) (tP T j) (nI t)) (tS T i).1
  have hlos := ill_los (tc := nI t) (g := g) (vl := v_lostOnes) hn16 hgo
  refine Ev.aload_n rfl rfl ?_
  refine Ev.getf rfl rfl m0 rfl ?_
  refine Ev.bipush (v := 6) rfl (by decide) ?_
  refine Ev.jle (tgt := 59) rfl (by decide) (fun c54 => ?_) (fun c54 => ?_)
  · skip
    have hl6 : bcn (lst (tS T i) (tP T j) (nI t)) (tS T i).1 ≤ 6 := Nat.le_of_not_lt (fun c => c54 (by rw [hlo]; exact (nI_lt_iff (a := 6) (by omega) (by omega)).mpr c))
    refine Ev.iconst (v := 1) rfl (by decide) ?_
    refine Ev.istore rfl rfl rfl ?_
    refine Ev.iconst (v := 0) rfl (by decide) ?_
    refine Ev.istore rfl rfl rfl ?_
    refine Ev.fg (L := [some (.ref y), none, some (.int (nI j)), some (.int (nI t)), some (.int (nI (610 + 120 * i))), some (.int (1 : Int32)), some (.int (nI 0)), none, none]) ?_ (gs rfl (gn (gs rfl (gs rfl (gs rfl (gs rfl (gs (congrArg Value.int (rfl : (0 : Int32) = nI 0).symm) (gn (gn gz)))))))))
    refine lp (fun (k : Nat) (z : Int32) => Ev Γ 0 0 m_M_ill 0 0 65 [some (.ref y), none, some (.int (nI j)), some (.int (nI t)), some (.int (nI (610 + 120 * i))), some (.int z), some (.int (nI k)), none, none] [] τ1 Q) (F_m_ill_65 T i j t g v_lostOnes v_tried v_row) (bcn (lst (tS T i) (tP T j) (nI t)) (tS T i).1) (fun k z hk hx => ?_) (bcn (lst (tS T i) (tP T j) (nI t)) (tS T i).1) 0 (1 : Int32) (by omega) ?_
    · skip
      refine Ev.iload rfl rfl ?_
      refine Ev.aload_n rfl rfl ?_
      refine Ev.getf rfl rfl m0 rfl ?_
      refine Ev.jge (tgt := 92) rfl (by decide) (fun c71 => absurd (ltN hk hlo (by omega)) c71) (fun c71 => ?_)
      refine Ev.iload rfl rfl ?_
      refine Ev.aload_n rfl rfl ?_
      refine Ev.iload_n rfl rfl ?_
      refine Ev.cV1 rfl rfl m0 rfl rfl (by decide) ⟨(Nat.le_refl _), (Nat.le_refl _)⟩ (m_classes_ok hM hP hj3 h6) ?_
      refine Ev.iconst (v := 1) rfl (by decide) ?_
      refine Ev.iadd rfl ?_
      refine Ev.imul rfl ?_
      refine Ev.istore rfl rfl rfl ?_
      refine Ev.iinc (d := 1) rfl rfl rfl (by decide) rfl ?_
      refine Ev.goto (tgt := 65) rfl (by decide) ?_
      have hF : (F_m_ill_65 T i j t g v_lostOnes v_tried v_row) k z = z * ((nI ((tP T j).1)) + (1 : Int32)) := by rfl
      rw [hF] at hx
      exact hx.fg (gs rfl (gn (gs rfl (gs rfl (gs rfl (gs rfl (gs (congrArg Value.int (show nI (k + 1) = (nI k) + (1 : Int32) from (nq_to (a := k + 1) (nq_add (a := k) (b := 1) rfl (rfl : (1 : Int32) = nI 1)) (by omega)).symm)) (gn (gn gz)))))))))
    · skip
      refine Ev.iload rfl rfl ?_
      refine Ev.aload_n rfl rfl ?_
      refine Ev.getf rfl rfl m0 rfl ?_
      refine Ev.jge (tgt := 92) rfl (by decide) (fun c71 => ?_) (fun c71 => absurd c71 (nltN hlo (by omega)))
      rw [show (fo (F_m_ill_65 T i j t g v_lostOnes v_tried v_row) (bcn (lst (tS T i) (tP T j) (nI t)) (tS T i).1) 0 (1 : Int32)) = nI (((tP T j).1 + 1) ^ (bcn (lst (tS T i) (tP T j) (nI t)) (tS T i).1)) from rows_fo (fun _ _ => rfl) _]
      have hways := ways_le h6 hl6
      refine Ev.iconst (v := 0) rfl (by decide) ?_
      refine Ev.istore rfl rfl rfl ?_
      refine Ev.iconst (v := 0) rfl (by decide) ?_
      refine Ev.istore rfl rfl rfl ?_
      refine Ev.fg (L := [some (.ref y), none, some (.int (nI j)), some (.int (nI t)), some (.int (nI (610 + 120 * i))), some (.int (nI (((tP T j).1 + 1) ^ (bcn (lst (tS T i) (tP T j) (nI t)) (tS T i).1)))), some (.int (0 : Int32)), some (.int (nI 0)), none]) ?_ (gs rfl (gn (gs rfl (gs rfl (gs rfl (gs rfl (gs rfl (gs (congrArg Value.int (rfl : (0 : Int32) = nI 0).symm) (gn gz)))))))))
      refine lp (fun (k : Nat) (z : Int32 × (Nat → Int32)) => ∀ τ' : ex_S, frm σ τ' y (y + 17) → τ'.2 (y + 1) = some (.inl (0, 4500, A)) → τ'.2 y = some (.inr (.inr (10, mo y ((K_m_loses (tS T i) (tP T j) (nI t) g v_lostOnes).1)))) → τ'.2 (y + 11) = some (.inl (0, 16, (K_m_loses (tS T i) (tP T j) (nI t) g v_lostOnes).2)) → τ'.2 (y + 8) = some (.inl (0, 6, z.2)) → τ'.2 (y + 9) = some (.inl (0, 16, v_row)) → (∀ q, q ≠ y → q ≠ y + 8 → q ≠ y + 11 → τ'.2 q = σ.2 q) → Ev Γ 0 0 m_M_ill 0 0 98 [some (.ref y), none, some (.int (nI j)), some (.int (nI t)), some (.int (nI (610 + 120 * i))), some (.int (nI (((tP T j).1 + 1) ^ (bcn (lst (tS T i) (tP T j) (nI t)) (tS T i).1)))), some (.int z.1), some (.int (nI k)), none] [] τ' Q) (F_m_ill_98 T i j t g v_lostOnes v_tried v_row) (((tP T j).1 + 1) ^ (bcn (lst (tS T i) (tP T j) (nI t)) (tS T i).1)) (fun k z hk hx => ?_) (((tP T j).1 + 1) ^ (bcn (lst (tS T i) (tP T j) (nI t)) (tS T i).1)) 0 ((0 : Int32), v_tried) (by omega) ?_ τ1 fr m1 m0 m_lostOnes m_tried m_row kp
      · skip
        intro τ' fr m1 m0 m_lostOnes m_tried m_row kp
        have hM : isM _ y ((K_m_loses (tS T i) (tP T j) (nI t) g v_lostOnes).1) A := ⟨m0, m1⟩
        refine Ev.iload rfl rfl ?_
        refine Ev.iload rfl rfl ?_
        refine Ev.jge (tgt := 157) rfl (by decide) (fun c102 => absurd (nI_lt hk (by omega)) c102) (fun c102 => ?_)
        refine Ev.aload_n rfl rfl ?_
        refine Ev.iload rfl rfl ?_
        refine Ev.iload_n rfl rfl ?_
        refine Ev.iload_n rfl rfl ?_
        refine Ev.iload rfl rfl ?_
        refine Ev.xV4 rfl rfl m0 rfl rfl (by decide) ⟨(Nat.le_refl _), (Nat.le_refl _)⟩ (m_spreads_ok hM hS hs hwS hP hj3 hwP hgo m_lostOnes m_tried (nI t) hlo hl6 (by omega) hlos) (fun τ2 f1 q1 => ?_)
        obtain ⟨m_tried, k1⟩ := q1
        have m1 := (k1 _ (by omega)).trans m1
        have m0 := (k1 _ (by omega)).trans m0
        have m_lostOnes := (k1 _ (by omega)).trans m_lostOnes
        have m_row := (k1 _ (by omega)).trans m_row
        have kp : (∀ q, q ≠ y → q ≠ y + 8 → q ≠ y + 11 → τ2.2 q = σ.2 q) := fun q n0 n1 n2 => (k1 q (by omega)).trans (kp q n0 n1 n2)
        have fr := fr.step f1 (by omega) (by omega)
        have hM : isM _ y ((K_m_loses (tS T i) (tP T j) (nI t) g v_lostOnes).1) A := ⟨m0, m1⟩
        refine Ev.zne (tgt := 121) rfl (by decide) (fun c115 => ?_) (fun c115 => ?_)
        · skip
          have htr := spr_inS hn16 h6 hgo hl6 (by omega) c115
          refine Ev.aload_n rfl rfl ?_
          refine Ev.iload rfl rfl ?_
          refine Ev.iload_n rfl rfl ?_
          refine Ev.aload_n rfl rfl ?_
          refine Ev.iload_n rfl rfl ?_
          refine Ev.cV1 rfl rfl m0 rfl rfl (by decide) ⟨(Nat.le_refl _), (Nat.le_refl _)⟩ (m_classes_ok hM hP hj3 h6) ?_
          refine Ev.cV3 rfl rfl m0 rfl rfl (by decide) ⟨(Nat.le_refl _), (Nat.le_refl _)⟩ (m_ltried_ok hM hS hs hwS hP hj3 hwP hgo m_tried m_row htr) ?_
          refine Ev.istore rfl rfl rfl ?_
          refine Ev.iload rfl rfl ?_
          refine Ev.iload rfl rfl ?_
          refine Ev.jle (tgt := 147) rfl (by decide) (fun c139 => ?_) (fun c139 => ?_)
          · skip
            refine Ev.iload rfl rfl ?_
            refine Ev.istore rfl rfl rfl ?_
            refine Ev.iinc (d := 1) rfl rfl rfl (by decide) rfl ?_
            refine Ev.goto (tgt := 98) rfl (by decide) ?_
            have hF : (F_m_ill_98 T i j t g v_lostOnes v_tried v_row) k z = (z.1, (K_m_spreads (tS T i) (tP T j) (nI t) k (bcn (lst (tS T i) (tP T j) (nI t)) (tS T i).1) (K_m_loses (tS T i) (tP T j) (nI t) g v_lostOnes).1 (K_m_loses (tS T i) (tP T j) (nI t) g v_lostOnes).2 z.2).2) := by
              unfold F_m_ill_98
              rw [if_neg c115]
              rw [if_neg c139]
            rw [hF] at hx
            exact (hx τ2 fr m1 m0 m_lostOnes m_tried m_row kp).fg (gs rfl (gn (gs rfl (gs rfl (gs rfl (gs rfl (gs rfl (gs (congrArg Value.int (show nI (k + 1) = (nI k) + (1 : Int32) from (nq_to (a := k + 1) (nq_add (a := k) (b := 1) rfl (rfl : (1 : Int32) = nI 1)) (by omega)).symm)) (gn gz)))))))))
          · skip
            refine Ev.iload rfl rfl ?_
            refine Ev.goto (tgt := 149) rfl (by decide) ?_
            refine Ev.istore rfl rfl rfl ?_
            refine Ev.iinc (d := 1) rfl rfl rfl (by decide) rfl ?_
            refine Ev.goto (tgt := 98) rfl (by decide) ?_
            have hF : (F_m_ill_98 T i j t g v_lostOnes v_tried v_row) k z = (K_m_ltried (tS T i) (tP T j) ((K_m_spreads (tS T i) (tP T j) (nI t) k (bcn (lst (tS T i) (tP T j) (nI t)) (tS T i).1) (K_m_loses (tS T i) (tP T j) (nI t) g v_lostOnes).1 (K_m_loses (tS T i) (tP T j) (nI t) g v_lostOnes).2 z.2).2), (K_m_spreads (tS T i) (tP T j) (nI t) k (bcn (lst (tS T i) (tP T j) (nI t)) (tS T i).1) (K_m_loses (tS T i) (tP T j) (nI t) g v_lostOnes).1 (K_m_loses (tS T i) (tP T j) (nI t) g v_lostOnes).2 z.2).2) := by
              unfold F_m_ill_98
              rw [if_neg c115]
              rw [if_pos c139]
            rw [hF] at hx
            exact (hx τ2 fr m1 m0 m_lostOnes m_tried m_row kp).fg (gs rfl (gn (gs rfl (gs rfl (gs rfl (gs rfl (gs rfl (gs (congrArg Value.int (show nI (k + 1) = (nI k) + (1 : Int32) from (nq_to (a := k + 1) (nq_add (a := k) (b := 1) rfl (rfl : (1 : Int32) = nI 1)) (by omega)).symm)) (gn gz)))))))))
        · skip
          refine Ev.goto (tgt := 151) rfl (by decide) ?_
          refine Ev.iinc (d := 1) rfl rfl rfl (by decide) rfl ?_
          refine Ev.goto (tgt := 98) rfl (by decide) ?_
          have hF : (F_m_ill_98 T i j t g v_lostOnes v_tried v_row) k z = (z.1, (K_m_spreads (tS T i) (tP T j) (nI t) k (bcn (lst (tS T i) (tP T j) (nI t)) (tS T i).1) (K_m_loses (tS T i) (tP T j) (nI t) g v_lostOnes).1 (K_m_loses (tS T i) (tP T j) (nI t) g v_lostOnes).2 z.2).2) := by
            unfold F_m_ill_98
            rw [if_pos c115]
          rw [hF] at hx
          exact (hx τ2 fr m1 m0 m_lostOnes m_tried m_row kp).fg (gs rfl (gn (gs rfl (gs rfl (gs rfl (gs rfl (gs rfl (gs (congrArg Value.int (show nI (k + 1) = (nI k) + (1 : Int32) from (nq_to (a := k + 1) (nq_add (a := k) (b := 1) rfl (rfl : (1 : Int32) = nI 1)) (by omega)).symm)) (gn gz)))))))))
      · skip
        intro τ' fr m1 m0 m_lostOnes m_tried m_row kp
        have hM : isM _ y ((K_m_loses (tS T i) (tP T j) (nI t) g v_lostOnes).1) A := ⟨m0, m1⟩
        refine Ev.iload rfl rfl ?_
        refine Ev.iload rfl rfl ?_
        refine Ev.jge (tgt := 157) rfl (by decide) (fun c102 => ?_) (fun c102 => absurd c102 (nI_nlt (Nat.le_refl _) (by omega)))
        refine Ev.iload rfl rfl ?_
        refine Ev.iret (ty := .int) rfl rfl rfl (Nat.le_refl _) (Nat.le_refl _) ?_
        have hK : (K_m_ill T i j t g v_lostOnes v_tried v_row) = ((fo (F_m_ill_98 T i j t g v_lostOnes v_tried v_row) (((tP T j).1 + 1) ^ (bcn (lst (tS T i) (tP T j) (nI t)) (tS T i).1)) 0 ((0 : Int32), v_tried)).1, (K_m_loses (tS T i) (tP T j) (nI t) g v_lostOnes).1, (K_m_loses (tS T i) (tP T j) (nI t) g v_lostOnes).2, (fo (F_m_ill_98 T i j t g v_lostOnes v_tried v_row) (((tP T j).1 + 1) ^ (bcn (lst (tS T i) (tP T j) (nI t)) (tS T i).1)) 0 ((0 : Int32), v_tried)).2) := by
          unfold K_m_ill
          rw [if_neg c54]
        rw [← hQ]
        dsimp only
        rw [hK]
        exact ⟨rfl, fr, m0, m_lostOnes, m_tried, kp⟩
  · skip
    refine Ev.iconst (v := (-1)) rfl (by decide) ?_
    refine Ev.iret (ty := .int) rfl rfl rfl (Nat.le_refl _) (Nat.le_refl _) ?_
    have hK : (K_m_ill T i j t g v_lostOnes v_tried v_row) = ((-1 : Int32), (K_m_loses (tS T i) (tP T j) (nI t) g v_lostOnes).1, (K_m_loses (tS T i) (tP T j) (nI t) g v_lostOnes).2, v_tried) := by
      unfold K_m_ill
      rw [if_pos c54]
    rw [← hQ]
    dsimp only
    rw [hK]
    exact ⟨rfl, fr, m0, m_lostOnes, m_tried, kp⟩
end
end
