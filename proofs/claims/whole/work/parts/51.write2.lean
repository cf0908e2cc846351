/-! Pictures moved; sit on both sides. -/
noncomputable section
theorem mS.mv {A B : Nat → Int32} {s t : Nat} {S : Sch} (h : mS A s S) (h1 : S.1 ≤ 16) (h2 : S.2.1 ≤ 5) (e : ∀ k, k < 120 → B (t + k) = A (s + k)) : mS B t S := by
  obtain ⟨a, b, c, d, f, g⟩ := h
  have e' : ∀ i k, i + k < 120 → B (t + i + k) = A (s + i + k) := fun i k hk => by rw [Nat.add_assoc, Nat.add_assoc]; exact e _ hk
  refine ⟨by rw [← a]; exact e 0 (by decide), by rw [← b]; exact e 1 (by decide), fun j hj => by rw [e' 2 j (by omega)]; exact c j hj, fun i hi => ?_, fun i hi => ?_, fun i hi => ?_⟩
  · obtain ⟨q1, q2, q3, q4, q5⟩ := d i hi
    exact ⟨by rw [e' 13 i (by omega)]; exact q1, by rw [e' 29 i (by omega)]; exact q2, by rw [e' 45 i (by omega)]; exact q3, by rw [e' 61 i (by omega)]; exact q4, by rw [e' 77 i (by omega)]; exact q5⟩
  · obtain ⟨q1, q2⟩ := f i hi
    exact ⟨by rw [e' 93 i (by omega)]; exact q1, by rw [e' 98 i (by omega)]; exact q2⟩
  · obtain ⟨q1, q2⟩ := g i hi
    exact ⟨by rw [e' 103 i (by omega)]; exact q1, by rw [e' 110 i (by omega)]; exact q2⟩
theorem mP.mv {A B : Nat → Int32} {s t : Nat} {P : Pln} (h : mP A s P) (h1 : P.1 ≤ 6) (e : ∀ k, k < 40 → B (t + k) = A (s + k)) : mP B t P := by
  obtain ⟨a, b⟩ := h
  refine ⟨by rw [← a]; exact e 0 (by decide), fun k hk q hq => ?_⟩
  rw [← b k hk q hq, show t + 1 + 6 * k + q = t + (1 + 6 * k + q) by omega, show s + 1 + 6 * k + q = s + (1 + 6 * k + q) by omega]
  exact e _ (by omega)
theorem mT.mv {A B : Nat → Int32} {s t : Nat} {T : Tol} (h : mT A s T) (hw : wT T) (e : ∀ k, k < 1090 → B (t + k) = A (s + k)) : mT B t T := by
  obtain ⟨a, b, c, d, f, g, i, j⟩ := h
  have w1 := hw.2.1
  have w2 := hw.2.2.1
  refine ⟨by rw [← a]; exact e 0 (by decide), by rw [← b]; exact e 1 (by decide), by rw [← c]; exact e 2 (by decide), by rw [← d]; exact e 3 (by decide), by rw [← f]; exact e 4 (by decide), fun k hk => ?_, fun k hk => ?_, fun k hk => ?_⟩
  · rw [← g k hk, Nat.add_assoc, Nat.add_assoc]
    exact e _ (by omega)
  · refine (i k hk).mv (hw.2.2.2.1 k hk).1 (hw.2.2.2.1 k hk).2.1 (fun q hq => ?_)
    rw [show t + 610 + 120 * k + q = t + (610 + 120 * k + q) by omega, show s + 610 + 120 * k + q = s + (610 + 120 * k + q) by omega]
    exact e _ (by omega)
  · refine (j k hk).mv (hw.2.2.2.2 k hk).1 (fun q hq => ?_)
    rw [show t + 970 + 40 * k + q = t + (970 + 40 * k + q) by omega, show s + 970 + 40 * k + q = s + (970 + 40 * k + q) by omega]
    exact e _ (by omega)
/-- class k of plan j with w sitting there -/
def T_sit (T : Tol) (j k : Nat) (w : Int32) : Tol := (tN T, tF T, tQ T, tSn T, tPn T, tB T, tS T, fun j' => if j' = j then ((tP T j).1, fun k' => if k' = k then (fun f => if f = 5 then w else (tP T j).2 k f) else (tP T j).2 k') else tP T j')
theorem sit_isT {σ : ex_S} {q : Nat} {T : Tol} (h : isT σ q T) {j k : Nat} (hj : j < 3) (hk : k < 6) (w : Int32) : isT (ex_put σ (q + 15 + 19 * j + 2 + k) (.inr (.inr (4, [.int ((tP T j).2 k 0), .int ((tP T j).2 k 1), .int ((tP T j).2 k 2), .int ((tP T j).2 k 3), .int ((tP T j).2 k 4), .int w])))) q (T_sit T j k w) := by
  obtain ⟨h0, h1, ⟨f, h2, h3⟩, ⟨g, h4, h5⟩, h6, h7⟩ := h
  generalize he : ex_put σ (q + 15 + 19 * j + 2 + k) (.inr (.inr (4, [.int ((tP T j).2 k 0), .int ((tP T j).2 k 1), .int ((tP T j).2 k 2), .int ((tP T j).2 k 3), .int ((tP T j).2 k 4), .int w]))) = τ
  have hf : frm σ τ (q + 15 + 19 * j + 2 + k) (q + 15 + 19 * j + 2 + k + 1) := by rw [← he]; exact frm.rf.put (Nat.le_refl _) (by omega)
  refine ⟨by rw [hf.2 _ (by omega)]; exact h0, by rw [hf.2 _ (by omega)]; exact h1, ⟨f, by rw [hf.2 _ (by omega)]; exact h2, h3⟩, ⟨g, by rw [hf.2 _ (by omega)]; exact h4, h5⟩, fun i hi => (h6 i hi).frm hf (by omega), fun j' hj' => ?_⟩
  by_cases e : j' = j
  · subst e
    obtain ⟨p0, ⟨pf, p1, p2⟩, p3⟩ := h7 j' hj'
    show isP τ _ ((fun j'' => if j'' = j' then ((tP T j').1, fun k' => if k' = k then (fun f => if f = 5 then w else (tP T j').2 k f) else (tP T j').2 k') else tP T j'') j')
    dsimp only
    rw [if_pos rfl]
    refine ⟨by rw [hf.2 _ (by omega)]; exact p0, ⟨pf, by rw [hf.2 _ (by omega)]; exact p1, p2⟩, fun k' hk' => ?_⟩
    dsimp only
    by_cases e2 : k' = k
    · subst e2
      rw [if_pos rfl]
      unfold isL
      rw [← he, ex_put_eq]
      simp
    · rw [if_neg e2]
      exact (p3 k' hk').frm hf (by omega)
  · show isP τ _ ((fun j'' => if j'' = j then ((tP T j).1, fun k' => if k' = k then (fun f => if f = 5 then w else (tP T j).2 k f) else (tP T j).2 k') else tP T j'') j')
    dsimp only
    rw [if_neg e]
    exact (h7 j' hj').frm hf (by omega)
theorem sit_mT {A : Nat → Int32} {T : Tol} (h : mT A 0 T) (hw : wT T) {j k : Nat} (hj : j < tPn T) (hk : k < (tP T j).1) (w : Int32) : mT (upd A (970 + 40 * j + 1 + 6 * k + 5) w) 0 (T_sit T j k w) := by
  have w1 := hw.2.1
  have w2 := hw.2.2.1
  have h6 := (hw.2.2.2.2 j hj).1
  generalize ha : 970 + 40 * j + 1 + 6 * k + 5 = a
  have e : ∀ q, q ≠ a → upd A a w q = A q := fun q hq => pk_un hq
  obtain ⟨a0, b, c, d, f, g, i, p⟩ := h
  refine ⟨by rw [e _ (by omega)]; exact a0, by rw [e _ (by omega)]; exact b, by rw [e _ (by omega)]; exact c, by rw [e _ (by omega)]; exact d, by rw [e _ (by omega)]; exact f, fun q hq => by rw [e _ (by omega)]; exact g q hq, fun q hq => ?_, fun q hq => ?_⟩
  · have hq : q < tSn T := hq
    exact (i q hq).mv (hw.2.2.2.1 q hq).1 (hw.2.2.2.1 q hq).2.1 (fun r hr => e _ (by omega))
  · have hq : q < tPn T := hq
    show mP _ _ ((fun j' => if j' = j then ((tP T j).1, fun k' => if k' = k then (fun f => if f = 5 then w else (tP T j).2 k f) else (tP T j).2 k') else tP T j') q)
    dsimp only
    by_cases ej : q = j
    · subst ej
      rw [if_pos rfl]
      obtain ⟨p0, p1⟩ := p q hq
      refine ⟨by rw [e _ (by omega)]; exact p0, fun k' hk' => ?_⟩
      dsimp only at hk' ⊢
      intro z hz
      by_cases ek : k' = k
      · subst ek
        rw [if_pos rfl]
        by_cases ez : z = 5
        · subst ez
          rw [if_pos rfl, show 0 + 970 + 40 * q + 1 + 6 * k' + 5 = a by omega]
          exact pk_us
        · rw [if_neg ez, e _ (by omega)]
          exact p1 k' hk' z hz
      · rw [if_neg ek, e _ (by omega)]
        exact p1 k' hk' z hz
    · rw [if_neg ej]
      exact (p q hq).mv (hw.2.2.2.2 q hq).1 (fun r hr => e _ (by omega))
theorem sit_wT {T : Tol} (hw : wT T) {j k : Nat} {w : Int32} (h : rg w 0 65535) : wT (T_sit T j k w) := by
  refine ⟨hw.1, hw.2.1, hw.2.2.1, hw.2.2.2.1, fun q hq => ?_⟩
  show wP ((fun j' => if j' = j then ((tP T j).1, fun k' => if k' = k then (fun f => if f = 5 then w else (tP T j).2 k f) else (tP T j).2 k') else tP T j') q)
  dsimp only
  by_cases ej : q = j
  · subst ej
    rw [if_pos rfl]
    have hp := hw.2.2.2.2 q hq
    refine ⟨hp.1, fun k' hk' => ?_⟩
    dsimp only at hk' ⊢
    by_cases ek : k' = k
    · subst ek
      rw [if_pos rfl]
      obtain ⟨a, b, c, d, f, -⟩ := hp.2 k' hk'
      exact ⟨a, b, c, d, f, h⟩
    · rw [if_neg ek]
      exact hp.2 k' hk'
  · rw [if_neg ej]
    exact hw.2.2.2.2 q hq
theorem bv_x (X B : BitVec 32) (l : Nat) (hl : l < 32) (hB : ∀ i, i < 32 → B.getLsbD i = decide (i = l)) : (X.getLsbD l = false → X ^^^ B = X ||| B ∧ X &&& (B ^^^ BitVec.allOnes 32) = X ∧ ¬ X ||| B = X) ∧ (X.getLsbD l = true → X ^^^ B = X &&& (B ^^^ BitVec.allOnes 32) ∧ X ||| B = X ∧ ¬ X &&& (B ^^^ BitVec.allOnes 32) = X) := by
  constructor
  · intro h
    refine ⟨?_, ?_, fun q => ?_⟩
    · apply BitVec.eq_of_getLsbD_eq
      intro i hi
      simp only [BitVec.getLsbD_xor, BitVec.getLsbD_or, hB i hi]
      by_cases e : i = l
      · subst e; simp [h]
      · simp [e]
    · apply BitVec.eq_of_getLsbD_eq
      intro i hi
      simp only [BitVec.getLsbD_and, BitVec.getLsbD_xor, BitVec.getLsbD_allOnes, hB i hi]
      by_cases e : i = l
      · subst e; simp [h]
      · simp [e, hi]
    · have := congrArg (fun v => BitVec.getLsbD v l) q
      simp only [BitVec.getLsbD_or, hB l hl, h] at this
      simp at this
  · intro h
    refine ⟨?_, ?_, fun q => ?_⟩
    · apply BitVec.eq_of_getLsbD_eq
      intro i hi
      simp only [BitVec.getLsbD_and, BitVec.getLsbD_xor, BitVec.getLsbD_allOnes, hB i hi]
      by_cases e : i = l
      · subst e; simp [h, hi]
      · simp [e, hi]
    · apply BitVec.eq_of_getLsbD_eq
      intro i hi
      simp only [BitVec.getLsbD_or, hB i hi]
      by_cases e : i = l
      · subst e; simp [h]
      · simp [e]
    · have := congrArg (fun v => BitVec.getLsbD v l) q
      simp only [BitVec.getLsbD_and, BitVec.getLsbD_xor, BitVec.getLsbD_allOnes, hB l hl, h] at this
      simp [hl] at this
theorem xor_bit {w l : Nat} (hw : w < 65536) (hl : l < 16) : rg (nI w ^^^ (1 : Int32) <<< (nI l &&& 31)) 0 65535 ∧ (K_bit (nI w) (nI l) = 0 → nI w ^^^ (1 : Int32) <<< (nI l &&& 31) = nI w ||| (1 : Int32) <<< (nI l &&& 31) ∧ nI w &&& ((1 : Int32) <<< (nI l &&& 31) ^^^ -1) = nI w ∧ ¬ nI w ||| (1 : Int32) <<< (nI l &&& 31) = nI w) ∧ (K_bit (nI w) (nI l) = 1 → nI w ^^^ (1 : Int32) <<< (nI l &&& 31) = nI w &&& ((1 : Int32) <<< (nI l &&& 31) ^^^ -1) ∧ nI w ||| (1 : Int32) <<< (nI l &&& 31) = nI w ∧ ¬ nI w &&& ((1 : Int32) <<< (nI l &&& 31) ^^^ -1) = nI w) := by
  have hp : 2 ^ l < 2 ^ 16 := Nat.pow_lt_pow_right (by decide) hl
  rw [shl1_nI l (by omega)]
  have hX : ∀ i, (nI w).toBitVec.getLsbD i = w.testBit i := fun i => by
    rw [BitVec.getLsbD, pk_tn (by omega)]
  have hB : ∀ i, i < 32 → (nI (2 ^ l)).toBitVec.getLsbD i = decide (i = l) := fun i _ => by
    rw [BitVec.getLsbD, pk_tn (by omega), Nat.testBit_two_pow]
    by_cases e : i = l
    · subst e; simp
    · simp [e, Ne.symm e]
  obtain ⟨b0, b1⟩ := bv_x (nI w).toBitVec (nI (2 ^ l)).toBitVec l (by omega) hB
  have e1 : (-1 : Int32).toBitVec = BitVec.allOnes 32 := by decide
  rw [hX] at b0 b1
  have hbit : K_bit (nI w) (nI l) = nI (w / 2 ^ l % 2) := bit_nI (by omega) (by omega)
  have ht : w.testBit l = decide (w / 2 ^ l % 2 = 1) := Nat.testBit_eq_decide_div_mod_eq
  refine ⟨?_, fun h => ?_, fun h => ?_⟩
  · have : nI w ^^^ nI (2 ^ l) = nI (w ^^^ 2 ^ l) := by
      apply Int32.toBitVec_inj.mp
      apply BitVec.eq_of_toNat_eq
      have hx : w ^^^ 2 ^ l < 2 ^ 16 := Nat.xor_lt_two_pow (by omega) hp
      rw [Int32.toBitVec_xor, BitVec.toNat_xor, pk_tn (by omega), pk_tn (by omega), pk_tn (by omega)]
    rw [this]
    have hx : w ^^^ 2 ^ l < 2 ^ 16 := Nat.xor_lt_two_pow (by omega) hp
    exact rg_nI (by omega) (by omega) (by omega)
  · rw [hbit, show (0 : Int32) = nI 0 from rfl, nI_eq (by omega) (by omega)] at h
    obtain ⟨q1, q2, q3⟩ := b0 (by rw [ht]; simp [h])
    refine ⟨?_, ?_, fun z => q3 ?_⟩
    · apply Int32.toBitVec_inj.mp
      rw [Int32.toBitVec_xor, Int32.toBitVec_or]
      exact q1
    · apply Int32.toBitVec_inj.mp
      rw [Int32.toBitVec_and, Int32.toBitVec_xor, e1]
      exact q2
    · rw [← Int32.toBitVec_or, z]
  · rw [hbit, show (1 : Int32) = nI 1 from rfl, nI_eq (by omega) (by omega)] at h
    obtain ⟨q1, q2, q3⟩ := b1 (by rw [ht]; simp [h])
    refine ⟨?_, ?_, fun z => q3 ?_⟩
    · apply Int32.toBitVec_inj.mp
      rw [Int32.toBitVec_xor, Int32.toBitVec_and, Int32.toBitVec_xor, e1]
      exact q1
    · apply Int32.toBitVec_inj.mp
      rw [Int32.toBitVec_or]
      exact q2
    · rw [← e1, ← Int32.toBitVec_xor, ← Int32.toBitVec_and, z]
section
variable {Γ : ex_G} {σ : ex_S} {x q a p y : Nat} {S : Sch} {T : Tol} {P : Pln} {g A : Nat → Int32}
theorem sit_new (hX : isX σ x) (hT : isT σ (x + 1) T) (hw : wT T) {v : Int32} {j : Nat} (hg : v = nI j ∧ j < tPn T) {k : Nat} (hk : k < (tP T j).1) {l : Nat} (hl : l < 16) {b : Int32} (hb : ¬ (if K_bit ((tP T j).2 k 5) (nI l) = 0 then (0 : Int32) else 1) = b) : RetB Γ m_SD_sit [.ref x, .int v, .int (nI k), .int (nI l), .int b] σ (.int (1)) (ex_put σ (x + 1 + 15 + 19 * j + 2 + k) (.inr (.inr (4, [.int ((tP T j).2 k 0), .int ((tP T j).2 k 1), .int ((tP T j).2 k 2), .int ((tP T j).2 k 3), .int ((tP T j).2 k 4), .int ((tP T j).2 k 5 ^^^ (1 : Int32) <<< (nI l &&& 31))])))) := by
  unfold isX at hX
  obtain ⟨t0, t1, ⟨fs, t2, t3⟩, ⟨fp, t4, t5⟩, t6, t7⟩ := id hT
  unfold RetB
  generalize hQ : (fun (r : Option Value) (σ' : ex_S) => r = some ((.int (1)) : Value) ∧ σ' = ex_put σ (x + 1 + 15 + 19 * j + 2 + k) (.inr (.inr (4, [.int ((tP T j).2 k 0), .int ((tP T j).2 k 1), .int ((tP T j).2 k 2), .int ((tP T j).2 k 3), .int ((tP T j).2 k 4), .int ((tP T j).2 k 5 ^^^ (1 : Int32) <<< (nI l &&& 31))])))) = Q
  refine Ret.start pm_10 rfl ?_
  obtain ⟨rfl, hj⟩ := hg
  have hw2 := hw.2.2.1
  have hwP := hw.2.2.2.2 j hj
  have h6 := hwP.1
  have hPj := t7 j (by omega)
  obtain ⟨p0, ⟨pf, p1, p2⟩, p3⟩ := id hPj
  have hLk := p3 k (by omega)
  have hLk2 := hLk
  unfold isL at hLk2
  refine Ev.aload_n rfl rfl ?_
  refine Ev.getf rfl rfl (by assumption) rfl ?_
  refine Ev.iload_n rfl rfl ?_
  refine Ev.cV1 rfl rfl (by assumption) rfl rfl (by decide) ⟨(Nat.le_refl _), (Nat.le_refl _)⟩ (planAt_some hT hw2 hj) ?_
  refine Ev.iload_n rfl rfl ?_
  refine Ev.cS2 rfl rfl rfl (by decide) ⟨(Nat.le_refl _), (Nat.le_refl _)⟩ (lessonOf_some hPj h6 hk) ?_
  refine Ev.astore rfl rfl rfl ?_
  refine Ev.aload rfl rfl ?_
  refine Ev.ifnull rfl ?_
  refine Ev.iload_n rfl rfl ?_
  refine Ev.if_lt (tgt := 40) rfl (by decide) (fun c20 => absurd c20 (nI_pos (by omega))) (fun c20 => ?_)
  refine Ev.iload_n rfl rfl ?_
  refine Ev.bipush (v := 16) rfl (by decide) ?_
  refine Ev.icmp_ge (tgt := 40) rfl (by decide) (fun c26 => absurd c26 (nI_ge hl (by decide))) (fun c26 => ?_)
  refine Ev.aload rfl rfl ?_
  refine Ev.iload_n rfl rfl ?_
  refine Ev.cV1 rfl rfl (by assumption) rfl rfl (by decide) ⟨(Nat.le_refl _), (Nat.le_refl _)⟩ (lhas_ok hLk _) ?_
  refine Ev.iload rfl rfl ?_
  refine Ev.icmp_ne (tgt := 42) rfl (by decide) (fun c37 => ?_) (fun c37 => absurd c37 hb)
  refine Ev.aload rfl rfl ?_
  refine Ev.dup rfl rfl ?_
  refine Ev.getf rfl rfl (by assumption) rfl ?_
  refine Ev.iconst (v := 1) rfl (by decide) ?_
  refine Ev.iload_n rfl rfl ?_
  refine Ev.ishl rfl ?_
  refine Ev.ixor rfl ?_
  refine Ev.putf rfl rfl (by assumption) rfl rfl rfl (Nat.le_of_ble_eq_true rfl) ?_
  refine Ev.iconst (v := 1) rfl (by decide) ?_
  refine Ev.iret (ty := .boolean) rfl rfl rfl (Nat.le_refl _) (Nat.le_refl _) ?_
  rw [← hQ]
  exact ⟨rfl, rfl⟩
theorem sit_old (hX : isX σ x) (hT : isT σ (x + 1) T) (hw : wT T) {v : Int32} {j : Nat} (hg : v = nI j ∧ j < tPn T) {k : Nat} (hk : k < (tP T j).1) {l : Nat} (hl : l < 16) {b : Int32} (hb : (if K_bit ((tP T j).2 k 5) (nI l) = 0 then (0 : Int32) else 1) = b) : RetV Γ m_SD_sit [.ref x, .int v, .int (nI k), .int (nI l), .int b] σ (.int (0)) := by
  unfold isX at hX
  obtain ⟨t0, t1, ⟨fs, t2, t3⟩, ⟨fp, t4, t5⟩, t6, t7⟩ := id hT
  unfold RetV
  generalize hQ : (fun (r : Option Value) (σ' : ex_S) => r = some ((.int (0)) : Value) ∧ σ' = σ) = Q
  refine Ret.start pm_10 rfl ?_
  obtain ⟨rfl, hj⟩ := hg
  have hw2 := hw.2.2.1
  have hwP := hw.2.2.2.2 j hj
  have h6 := hwP.1
  have hPj := t7 j (by omega)
  obtain ⟨p0, ⟨pf, p1, p2⟩, p3⟩ := id hPj
  have hLk := p3 k (by omega)
  have hLk2 := hLk
  unfold isL at hLk2
  refine Ev.aload_n rfl rfl ?_
  refine Ev.getf rfl rfl (by assumption) rfl ?_
  refine Ev.iload_n rfl rfl ?_
  refine Ev.cV1 rfl rfl (by assumption) rfl rfl (by decide) ⟨(Nat.le_refl _), (Nat.le_refl _)⟩ (planAt_some hT hw2 hj) ?_
  refine Ev.iload_n rfl rfl ?_
  refine Ev.cS2 rfl rfl rfl (by decide) ⟨(Nat.le_refl _), (Nat.le_refl _)⟩ (lessonOf_some hPj h6 hk) ?_
  refine Ev.astore rfl rfl rfl ?_
  refine Ev.aload rfl rfl ?_
  refine Ev.ifnull rfl ?_
  refine Ev.iload_n rfl rfl ?_
  refine Ev.if_lt (tgt := 40) rfl (by decide) (fun c20 => absurd c20 (nI_pos (by omega))) (fun c20 => ?_)
  refine Ev.iload_n rfl rfl ?_
  refine Ev.bipush (v := 16) rfl (by decide) ?_
  refine Ev.icmp_ge (tgt := 40) rfl (by decide) (fun c26 => absurd c26 (nI_ge hl (by decide))) (fun c26 => ?_)
  refine Ev.aload rfl rfl ?_
  refine Ev.iload_n rfl rfl ?_
  refine Ev.cV1 rfl rfl (by assumption) rfl rfl (by decide) ⟨(Nat.le_refl _), (Nat.le_refl _)⟩ (lhas_ok hLk _) ?_
  refine Ev.iload rfl rfl ?_
  refine Ev.icmp_ne (tgt := 42) rfl (by decide) (fun c37 => absurd hb c37) (fun c37 => ?_)
  refine Ev.iconst (v := 0) rfl (by decide) ?_
  refine Ev.iret (ty := .boolean) rfl rfl rfl (Nat.le_refl _) (Nat.le_refl _) ?_
  rw [← hQ]
  exact ⟨rfl, rfl⟩
theorem sit_nol (hX : isX σ x) (hT : isT σ (x + 1) T) (hw : wT T) {v : Int32} {j : Nat} (hg : v = nI j ∧ j < tPn T) {k : Nat} (hk : k < (tP T j).1) {l : Int32} (hl : l < 0 ∨ nI 16 ≤ l) (b : Int32) : RetV Γ m_SD_sit [.ref x, .int v, .int (nI k), .int l, .int b] σ (.int (0)) := by
  unfold isX at hX
  obtain ⟨t0, t1, ⟨fs, t2, t3⟩, ⟨fp, t4, t5⟩, t6, t7⟩ := id hT
  unfold RetV
  generalize hQ : (fun (r : Option Value) (σ' : ex_S) => r = some ((.int (0)) : Value) ∧ σ' = σ) = Q
  refine Ret.start pm_10 rfl ?_
  obtain ⟨rfl, hj⟩ := hg
  have hw2 := hw.2.2.1
  have hwP := hw.2.2.2.2 j hj
  have h6 := hwP.1
  have hPj := t7 j (by omega)
  obtain ⟨p0, ⟨pf, p1, p2⟩, p3⟩ := id hPj
  have hLk := p3 k (by omega)
  have hLk2 := hLk
  unfold isL at hLk2
  refine Ev.aload_n rfl rfl ?_
  refine Ev.getf rfl rfl (by assumption) rfl ?_
  refine Ev.iload_n rfl rfl ?_
  refine Ev.cV1 rfl rfl (by assumption) rfl rfl (by decide) ⟨(Nat.le_refl _), (Nat.le_refl _)⟩ (planAt_some hT hw2 hj) ?_
  refine Ev.iload_n rfl rfl ?_
  refine Ev.cS2 rfl rfl rfl (by decide) ⟨(Nat.le_refl _), (Nat.le_refl _)⟩ (lessonOf_some hPj h6 hk) ?_
  refine Ev.astore rfl rfl rfl ?_
  refine Ev.aload rfl rfl ?_
  refine Ev.ifnull rfl ?_
  refine Ev.iload_n rfl rfl ?_
  refine Ev.if_lt (tgt := 40) rfl (by decide) (fun c20 => ?_) (fun c20 => ?_)
  · skip
    refine Ev.iconst (v := 0) rfl (by decide) ?_
    refine Ev.iret (ty := .boolean) rfl rfl rfl (Nat.le_refl _) (Nat.le_refl _) ?_
    rw [← hQ]
    exact ⟨rfl, rfl⟩
  · skip
    refine Ev.iload_n rfl rfl ?_
    refine Ev.bipush (v := 16) rfl (by decide) ?_
    refine Ev.icmp_ge (tgt := 40) rfl (by decide) (fun c26 => ?_) (fun c26 => absurd (hl.resolve_left c20) c26)
    refine Ev.iconst (v := 0) rfl (by decide) ?_
    refine Ev.iret (ty := .boolean) rfl rfl rfl (Nat.le_refl _) (Nat.le_refl _) ?_
    rw [← hQ]
    exact ⟨rfl, rfl⟩
theorem sit_nok (hX : isX σ x) (hT : isT σ (x + 1) T) (hw : wT T) {v : Int32} {j : Nat} (hg : v = nI j ∧ j < tPn T) {k : Int32} (hk : k < 0 ∨ nI (tP T j).1 ≤ k) (l b : Int32) : RetV Γ m_SD_sit [.ref x, .int v, .int k, .int l, .int b] σ (.int (0)) := by
  unfold isX at hX
  obtain ⟨t0, t1, ⟨fs, t2, t3⟩, ⟨fp, t4, t5⟩, t6, t7⟩ := id hT
  unfold RetV
  generalize hQ : (fun (r : Option Value) (σ' : ex_S) => r = some ((.int (0)) : Value) ∧ σ' = σ) = Q
  refine Ret.start pm_10 rfl ?_
  obtain ⟨rfl, hj⟩ := hg
  have hw2 := hw.2.2.1
  have hwP := hw.2.2.2.2 j hj
  have h6 := hwP.1
  have hPj := t7 j (by omega)
  obtain ⟨p0, ⟨pf, p1, p2⟩, p3⟩ := id hPj
  refine Ev.aload_n rfl rfl ?_
  refine Ev.getf rfl rfl (by assumption) rfl ?_
  refine Ev.iload_n rfl rfl ?_
  refine Ev.cV1 rfl rfl (by assumption) rfl rfl (by decide) ⟨(Nat.le_refl _), (Nat.le_refl _)⟩ (planAt_some hT hw2 hj) ?_
  refine Ev.iload_n rfl rfl ?_
  refine Ev.cS2 rfl rfl rfl (by decide) ⟨(Nat.le_refl _), (Nat.le_refl _)⟩ (lessonOf_none hPj hk) ?_
  refine Ev.astoreN rfl rfl rfl ?_
  refine Ev.aloadN rfl rfl ?_
  refine Ev.ifnullN (tgt := 40) rfl (by decide) ?_
  refine Ev.iconst (v := 0) rfl (by decide) ?_
  refine Ev.iret (ty := .boolean) rfl rfl rfl (Nat.le_refl _) (Nat.le_refl _) ?_
  rw [← hQ]
  exact ⟨rfl, rfl⟩
theorem sit_nop (hX : isX σ x) (hT : isT σ (x + 1) T) (hw : wT T) {v : Int32} (hg : v < 0 ∨ nI (tPn T) ≤ v) (k l b : Int32) : RetV Γ m_SD_sit [.ref x, .int v, .int k, .int l, .int b] σ (.int (0)) := by
  unfold isX at hX
  obtain ⟨t0, t1, ⟨fs, t2, t3⟩, ⟨fp, t4, t5⟩, t6, t7⟩ := id hT
  unfold RetV
  generalize hQ : (fun (r : Option Value) (σ' : ex_S) => r = some ((.int (0)) : Value) ∧ σ' = σ) = Q
  refine Ret.start pm_10 rfl ?_
  refine Ev.aload_n rfl rfl ?_
  refine Ev.getf rfl rfl (by assumption) rfl ?_
  refine Ev.iload_n rfl rfl ?_
  refine Ev.cV1 rfl rfl (by assumption) rfl rfl (by decide) ⟨(Nat.le_refl _), (Nat.le_refl _)⟩ (planAt_none hT hg) ?_
  refine Ev.iload_n rfl rfl ?_
  refine Ev.cS2 rfl rfl rfl (by decide) ⟨(Nat.le_refl _), (Nat.le_refl _)⟩ (lessonOf_null _) ?_
  refine Ev.astoreN rfl rfl rfl ?_
  refine Ev.aloadN rfl rfl ?_
  refine Ev.ifnullN (tgt := 40) rfl (by decide) ?_
  refine Ev.iconst (v := 0) rfl (by decide) ?_
  refine Ev.iret (ty := .boolean) rfl rfl rfl (Nat.le_refl _) (Nat.le_refl _) ?_
  rw [← hQ]
  exact ⟨rfl, rfl⟩
end
end
