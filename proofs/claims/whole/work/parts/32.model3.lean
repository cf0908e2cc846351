/-! The reference: what is learnt, in a class and in a plan. -/
noncomputable section
theorem rg.clamp {x : Int32} {lo hi : Int} (h : rg x lo hi) (h0 : 0 ≤ lo) : x = nI x.toNatClampNeg ∧ (x.toNatClampNeg : Int) ≤ hi ∧ lo ≤ (x.toNatClampNeg : Int) := by
  obtain ⟨q, e, h1, h2, h3⟩ := h.nat h0
  subst e
  rw [nI_clamp h3]
  exact ⟨rfl, h2, h1⟩
theorem bit_lt {w n i : Nat} (hw : w < 2 ^ n) (hn : n ≤ 16) (hi : i < 32) (h : ¬ K_bit (nI w) (nI i) = 0) : i < n := by
  rcases Nat.lt_or_ge i n with q | q
  · exact q
  · exfalso
    apply h
    have h1 : 2 ^ n ≤ 2 ^ 16 := Nat.pow_le_pow_right (by decide) hn
    have h2 : 2 ^ n ≤ 2 ^ i := Nat.pow_le_pow_right (by decide) q
    rw [bit_nI (by omega) hi, Nat.div_eq_of_lt (by omega)]
    rfl
theorem abs1 {x z : Nat} (hx : x < 12) (hz : z < 12) : K_abs (nI x - nI z) = 1 ↔ x + 1 = z ∨ x = z + 1 := by
  have hd := pk_sub_toInt (a := x) (b := z) (by omega) (by omega)
  have e0 : (0 : Int32).toInt = 0 := by decide
  have e1 : (1 : Int32).toInt = 1 := by decide
  unfold K_abs
  split
  · rename_i h
    rw [le_toInt, hd, e0] at h
    rw [eq_toInt, hd, e1]
    omega
  · rename_i h
    rw [le_toInt, hd, e0] at h
    rw [eq_toInt, Int32.toInt_neg, hd, Int.bmod_eq_of_le (by omega) (by omega), e1]
    omega
theorem tells_eq {S : Sch} (hw : wS S) {w l : Nat} (hW : w < 2 ^ S.1) (hl : l < S.1) : (¬ K_told (K_steps S (nI w)) (S.2.2 0 l) = 0) ↔ ¬ fo (F_tells S (nI w) l) S.1 0 0 = 0 := by
  have hst : ∀ i, i < S.1 → S.2.2 0 i = nI (S.2.2 0 i).toNatClampNeg ∧ (S.2.2 0 i).toNatClampNeg < 12 := fun i hi => by
    obtain ⟨a, b, -⟩ := (hw.2.2.1 i hi).1.clamp (by decide)
    exact ⟨a, by omega⟩
  have hb : ∀ i, i < 17 → ¬ K_bit (nI w) (nI i) = 0 → i < S.1 := fun i hi h => bit_lt hW hw.1 (by omega) h
  have ht := told_iff (S := S) (w := nI w) (own := (S.2.2 0 l).toNatClampNeg) (fun i => (S.2.2 0 i).toNatClampNeg) (fun i hi h => hst i (hb i hi h)) (hst l hl).2
  rw [← (hst l hl).1] at ht
  rw [ht, (tells_iff S.1 0 0 (Or.inl rfl)).2]
  have hn := hw.1
  constructor
  · rintro ⟨i, h1, h2, h3⟩
    have hi := hb i h1 h2
    refine Or.inr ⟨i, Nat.zero_le _, by omega, ?_, bit_ne0.mp h2, ?_⟩
    · intro e
      rw [nI_eq (by omega) (by omega)] at e
      subst e
      omega
    · rw [(hst i hi).1, (hst l hl).1]
      exact (abs1 (hst i hi).2 (hst l hl).2).mpr h3
  · rintro (h | ⟨o, h1, h2, h3, h4, h5⟩)
    · exact absurd rfl h
    · have ho : o < S.1 := by omega
      refine ⟨o, by omega, bit_ne0.mpr h4, ?_⟩
      rw [(hst o ho).1, (hst l hl).1] at h5
      exact (abs1 (hst o ho).2 (hst l hl).2).mp h5
/-- what one of those who sit learns -/
def K_by (S : Sch) (C : Les) (w : Int32) (l : Nat) : Int32 := K_fitting S C (S.2.2 0 l) (K_steps S w) * K_part S (K_bc w) / 100
theorem tog_by {S : Sch} (hw : wS S) {C : Les} {w : Nat} (hW : w < 2 ^ S.1) : K_tog S C (nI w) = fo (fun l x => x + (if K_bit (nI w) (nI l) = 1 then K_by S C (nI w) l else 0)) S.1 0 0 := by
  unfold K_tog
  have hn := hw.1
  rw [show (17 : Nat) = S.1 + (17 - S.1) by omega, fo_add, fo_id]
  · refine fo_cong _ _ _ (fun j x _ h2 => ?_)
    unfold F_tog K_by
    by_cases h : K_bit (nI w) (nI j) = 0
    · rw [if_pos h, if_neg (by rw [h]; decide)]
      simp
    · rw [if_neg h, if_pos (bit_ne0.mp h)]
      by_cases h4 : C 0 = 4
      · rw [if_pos h4]
      · rw [if_neg h4]
        unfold K_fitting
        rw [if_neg h4, if_neg h4]
  · intro j x h1 h2
    unfold F_tog
    rw [if_pos]
    by_cases h : K_bit (nI w) (nI j) = 0
    · exact h
    · have := bit_lt hW hw.1 (by omega) h
      omega
theorem add0 (x : Int32) : x + 0 = x := by simp
section
variable {Γ : ex_G} {σ : ex_S} {y s c p : Nat} {g A : Nat → Int32} {S : Sch} {C : Les} {P : Pln}
theorem m_fit_ok (hM : isM σ y g A) (hS : mS A s S) (hs : s + 120 ≤ 4500) (hw : wS S) (hC : mL A c C) (hc : c + 6 ≤ 4500) (hl : wL C) (hg : goT S C) (l : Nat) (hll : l < S.1) (w : Nat) (hW : w < 2 ^ S.1) : RetV Γ m_M_fitOf [.ref y, .int (nI s), .int (nI c), .int (nI l), .int (nI w)] σ (.int (K_fitting S C (S.2.2 0 l) (K_steps S (nI w)))) := by
  obtain ⟨m0, m1⟩ := id hM
  unfold RetV
  generalize hQ : (fun (r : Option Value) (σ' : ex_S) => r = some ((.int (K_fitting S C (S.2.2 0 l) (K_steps S (nI w)))) : Value) ∧ σ' = σ) = Q
  refine Ret.start pm_204 rfl ?_
  have hn := hw.1
  have a11 : A (s + 11) = S.2.2 9 9 := hS.2.2.1 9 (by decide)
  have as0 : A s = nI S.1 := hS.1
  have ho : rg (S.2.2 0 l) 0 12 := (hw.2.2.1 l hll).1.mono (by decide) (by decide)
  refine Ev.aload_n rfl rfl ?_
  refine Ev.iload_n rfl rfl ?_
  refine Ev.iload_n rfl rfl ?_
  refine Ev.aload_n rfl rfl ?_
  refine Ev.iload_n rfl rfl ?_
  refine Ev.iload_n rfl rfl ?_
  refine Ev.cV2 rfl rfl (by assumption) rfl rfl (by decide) ⟨(Nat.le_refl _), (Nat.le_refl _)⟩ (m_step_ok hM hS hs hw l hll) ?_
  refine Ev.cV3 rfl rfl (by assumption) rfl rfl (by decide) ⟨(Nat.le_refl _), (Nat.le_refl _)⟩ (m_plain_ok hM hS hs hw hC hc hl hg _ ho) ?_
  refine Ev.istore rfl rfl rfl ?_
  refine Ev.aload_n rfl rfl ?_
  refine Ev.getf rfl rfl (by assumption) rfl ?_
  refine Ev.iload_n rfl rfl ?_
  refine Ev.iconst (v := 0) rfl (by decide) ?_
  refine Ev.iadd rfl ?_
  refine Ev.ialdN (k := c + 0) rfl (by assumption) (nI_add c 0) ⟨(by omega), by decide⟩ ?_
  rw [hC 0 (by decide)]
  refine Ev.iconst (v := 4) rfl (by decide) ?_
  refine Ev.icmp_eq (tgt := 29) rfl (by decide) (fun c23 => ?_) (fun c23 => ?_)
  · skip
    refine Ev.iconst (v := 0) rfl (by decide) ?_
    refine Ev.istore rfl rfl rfl ?_
    refine Ev.iconst (v := 0) rfl (by decide) ?_
    refine Ev.istore rfl rfl rfl ?_
    refine Ev.cg (L' := [some (.ref y), some (.int (nI s)), some (.int (nI c)), some (.int (nI l)), some (.int (nI w)), some (.int (K_alone S C (S.2.2 0 l))), some (.int 0), some (.int (nI 0))]) ?_ (by first | rfl | simp [nI_0])
    refine lp (fun i z => Ev Γ 0 0 m_M_fitOf 0 0 35 [some (.ref y), some (.int (nI s)), some (.int (nI c)), some (.int (nI l)), some (.int (nI w)), some (.int (K_alone S C (S.2.2 0 l))), some (.int z), some (.int (nI i))] [] σ Q) (F_tells S (nI w) l) (S.1) (fun i z hi hnx => ?_) (S.1) 0 (0) (by omega) ?_
    · skip
      refine Ev.iload rfl rfl ?_
      refine Ev.aload_n rfl rfl ?_
      refine Ev.getf rfl rfl (by assumption) rfl ?_
      refine Ev.iload_n rfl rfl ?_
      refine Ev.ialdN (k := s) rfl (by assumption) rfl ⟨(by omega), by decide⟩ ?_
      rw [as0]
      refine Ev.icmp_ge (tgt := 102) rfl (by decide) (fun c43 => absurd c43 (nI_ge hi (by omega))) (fun c43 => ?_)
      refine Ev.iload rfl rfl ?_
      refine Ev.if_ne (tgt := 89) rfl (by decide) (fun c48 => ?_) (fun c48 => ?_)
      · skip
        refine Ev.iconst (v := 1) rfl (by decide) ?_
        refine Ev.goto (tgt := 94) rfl (by decide) ?_
        refine Ev.istore rfl rfl rfl ?_
        refine Ev.iinc (d := 1) rfl rfl rfl (by decide) rfl ?_
        refine Ev.goto (tgt := 35) rfl (by decide) ?_
        exact hnx.cg (by first | (simp [nI_1, F_tells, K_bit, *]; done) | (simp [nI_1, F_tells, K_bit, *]; rfl) | (simp [nI_1, F_tells, K_bit, *]; rw [← nI_1, ← nI_1, c54]))
      · skip
        refine Ev.iload rfl rfl ?_
        refine Ev.iload_n rfl rfl ?_
        refine Ev.icmp_eq (tgt := 93) rfl (by decide) (fun c54 => ?_) (fun c54 => ?_)
        · skip
          refine Ev.iconst (v := 0) rfl (by decide) ?_
          refine Ev.istore rfl rfl rfl ?_
          refine Ev.iinc (d := 1) rfl rfl rfl (by decide) rfl ?_
          refine Ev.goto (tgt := 35) rfl (by decide) ?_
          exact hnx.cg (by first | (simp [nI_1, F_tells, K_bit, *]; done) | (simp [nI_1, F_tells, K_bit, *]; rfl) | (simp [nI_1, F_tells, K_bit, *]; rw [← nI_1, ← nI_1, c54]))
        · skip
          refine Ev.iload rfl rfl ?_
          refine Ev.iload rfl rfl ?_
          refine Ev.ishr rfl ?_
          refine Ev.iconst (v := 1) rfl (by decide) ?_
          refine Ev.iand rfl ?_
          refine Ev.iconst (v := 1) rfl (by decide) ?_
          refine Ev.icmp_ne (tgt := 93) rfl (by decide) (fun c65 => ?_) (fun c65 => ?_)
          · skip
            refine Ev.iconst (v := 0) rfl (by decide) ?_
            refine Ev.istore rfl rfl rfl ?_
            refine Ev.iinc (d := 1) rfl rfl rfl (by decide) rfl ?_
            refine Ev.goto (tgt := 35) rfl (by decide) ?_
            exact hnx.cg (by first | (simp [nI_1, F_tells, K_bit, *]; done) | (simp [nI_1, F_tells, K_bit, *]; rfl) | (simp [nI_1, F_tells, K_bit, *]; rw [← nI_1, ← nI_1, c54]))
          · skip
            refine Ev.aload_n rfl rfl ?_
            refine Ev.iload_n rfl rfl ?_
            refine Ev.iload rfl rfl ?_
            refine Ev.cV2 rfl rfl (by assumption) rfl rfl (by decide) ⟨(Nat.le_refl _), (Nat.le_refl _)⟩ (m_step_ok hM hS hs hw i hi) ?_
            refine Ev.aload_n rfl rfl ?_
            refine Ev.iload_n rfl rfl ?_
            refine Ev.iload_n rfl rfl ?_
            refine Ev.cV2 rfl rfl (by assumption) rfl rfl (by decide) ⟨(Nat.le_refl _), (Nat.le_refl _)⟩ (m_step_ok hM hS hs hw l hll) ?_
            refine Ev.isub rfl ?_
            refine Ev.cS1 rfl rfl rfl (by decide) ⟨(Nat.le_refl _), (Nat.le_refl _)⟩ (m_size_ok _) ?_
            refine Ev.iconst (v := 1) rfl (by decide) ?_
            refine Ev.icmp_ne (tgt := 93) rfl (by decide) (fun c86 => ?_) (fun c86 => ?_)
            · skip
              refine Ev.iconst (v := 0) rfl (by decide) ?_
              refine Ev.istore rfl rfl rfl ?_
              refine Ev.iinc (d := 1) rfl rfl rfl (by decide) rfl ?_
              refine Ev.goto (tgt := 35) rfl (by decide) ?_
              exact hnx.cg (by first | (simp [nI_1, F_tells, K_bit, *]; done) | (simp [nI_1, F_tells, K_bit, *]; rfl) | (simp [nI_1, F_tells, K_bit, *]; rw [← nI_1, ← nI_1, c54]))
            · skip
              refine Ev.iconst (v := 1) rfl (by decide) ?_
              refine Ev.goto (tgt := 94) rfl (by decide) ?_
              refine Ev.istore rfl rfl rfl ?_
              refine Ev.iinc (d := 1) rfl rfl rfl (by decide) rfl ?_
              refine Ev.goto (tgt := 35) rfl (by decide) ?_
              exact hnx.cg (by first | (simp [nI_1, F_tells, K_bit, *]; done) | (simp [nI_1, F_tells, K_bit, *]; rfl) | (simp [nI_1, F_tells, K_bit, *]; rw [← nI_1, ← nI_1, c54]))
    · skip
      refine Ev.iload rfl rfl ?_
      refine Ev.aload_n rfl rfl ?_
      refine Ev.getf rfl rfl (by assumption) rfl ?_
      refine Ev.iload_n rfl rfl ?_
      refine Ev.ialdN (k := s) rfl (by assumption) rfl ⟨(by omega), by decide⟩ ?_
      rw [as0]
      refine Ev.icmp_ge (tgt := 102) rfl (by decide) (fun c43 => ?_) (fun c43 => absurd (nI_le (Nat.le_refl _) (by omega)) c43)
      refine Ev.iload rfl rfl ?_
      refine Ev.if_eq (tgt := 122) rfl (by decide) (fun c104 => ?_) (fun c104 => ?_)
      · skip
        refine Ev.iload rfl rfl ?_
        refine Ev.iret (ty := .int) rfl rfl rfl (Nat.le_refl _) (Nat.le_refl _) ?_
        rw [← hQ]
        refine ⟨?_, rfl⟩
        have hT := tells_eq hw hW hll
        unfold K_fitting
        rw [if_pos c23]
        by_cases q : fo (F_tells S (nI w) l) S.1 0 0 = 0
        · first | (rw [if_pos (by by_cases z : K_told (K_steps S (nI w)) (S.2.2 0 l) = 0; exact z; exact absurd q (hT.mp z)), add0]; done) | exact absurd q c104
        · first | (rw [if_neg (hT.mpr q)]; done) | exact absurd c104 q
      · skip
        refine Ev.iload rfl rfl ?_
        refine Ev.aload_n rfl rfl ?_
        refine Ev.getf rfl rfl (by assumption) rfl ?_
        refine Ev.iload_n rfl rfl ?_
        refine Ev.bipush (v := 11) rfl (by decide) ?_
        refine Ev.iadd rfl ?_
        refine Ev.ialdN (k := s + 11) rfl (by assumption) (nI_add s 11) ⟨(by omega), by decide⟩ ?_
        rw [a11]
        refine Ev.iadd rfl ?_
        refine Ev.goto (tgt := 124) rfl (by decide) ?_
        refine Ev.iret (ty := .int) rfl rfl rfl (Nat.le_refl _) (Nat.le_refl _) ?_
        rw [← hQ]
        refine ⟨?_, rfl⟩
        have hT := tells_eq hw hW hll
        unfold K_fitting
        rw [if_pos c23]
        by_cases q : fo (F_tells S (nI w) l) S.1 0 0 = 0
        · first | (rw [if_pos (by by_cases z : K_told (K_steps S (nI w)) (S.2.2 0 l) = 0; exact z; exact absurd q (hT.mp z)), add0]; done) | exact absurd q c104
        · first | (rw [if_neg (hT.mpr q)]; done) | exact absurd c104 q
  · skip
    refine Ev.iload rfl rfl ?_
    refine Ev.iret (ty := .int) rfl rfl rfl (Nat.le_refl _) (Nat.le_refl _) ?_
    rw [← hQ]
    exact ⟨by simp [K_fitting, c23], rfl⟩
theorem m_by_ok (hM : isM σ y g A) (hS : mS A s S) (hs : s + 120 ≤ 4500) (hw : wS S) (hC : mL A c C) (hc : c + 6 ≤ 4500) (hl : wL C) (hg : goT S C) (l : Nat) (hll : l < S.1) (w : Nat) (hW : w < 2 ^ S.1) : RetV Γ m_M_learntBy [.ref y, .int (nI s), .int (nI c), .int (nI l), .int (nI w)] σ (.int (K_by S C (nI w) l)) := by
  obtain ⟨m0, m1⟩ := id hM
  unfold RetV
  generalize hQ : (fun (r : Option Value) (σ' : ex_S) => r = some ((.int (K_by S C (nI w) l)) : Value) ∧ σ' = σ) = Q
  refine Ret.start pm_207 rfl ?_
  have hn := hw.1
  have hp : 2 ^ S.1 ≤ 2 ^ 16 := Nat.pow_le_pow_right (by decide) hn
  have em : K_many (nI w) = nI (pop w) := by rw [many_nI (by omega), bc_nI (by omega)]
  have eb : K_bc (nI w) = nI (pop w) := bc_nI (by omega)
  refine Ev.aload_n rfl rfl ?_
  refine Ev.iload_n rfl rfl ?_
  refine Ev.iload_n rfl rfl ?_
  refine Ev.iload_n rfl rfl ?_
  refine Ev.iload rfl rfl ?_
  refine Ev.cV4 rfl rfl (by assumption) rfl rfl (by decide) ⟨(Nat.le_refl _), (Nat.le_refl _)⟩ (m_fit_ok hM hS hs hw hC hc hl hg l hll w hW) ?_
  refine Ev.aload_n rfl rfl ?_
  refine Ev.iload_n rfl rfl ?_
  refine Ev.iload rfl rfl ?_
  refine Ev.cS1 rfl rfl rfl (by decide) ⟨(Nat.le_refl _), (Nat.le_refl _)⟩ (m_many_ok _) ?_
  rw [em]
  refine Ev.cV2 rfl rfl (by assumption) rfl rfl (by decide) ⟨(Nat.le_refl _), (Nat.le_refl _)⟩ (m_leaves_ok hM hS hs hw (pop w) (pop_le w)) ?_
  refine Ev.imul rfl ?_
  refine Ev.bipush (v := 100) rfl (by decide) ?_
  refine Ev.idiv rfl (by decide) ?_
  refine Ev.iret (ty := .int) rfl rfl rfl (Nat.le_refl _) (Nat.le_refl _) ?_
  rw [← hQ]
  exact ⟨by unfold K_by; rw [eb], rfl⟩
theorem m_tog_ok (hM : isM σ y g A) (hS : mS A s S) (hs : s + 120 ≤ 4500) (hw : wS S) (hC : mL A c C) (hc : c + 6 ≤ 4500) (hl : wL C) (hg : goT S C) (w : Nat) (hW : w < 2 ^ S.1) : RetV Γ m_M_learntIn [.ref y, .int (nI s), .int (nI c), .int (nI w)] σ (.int (K_tog S C (nI w))) := by
  obtain ⟨m0, m1⟩ := id hM
  unfold RetV
  generalize hQ : (fun (r : Option Value) (σ' : ex_S) => r = some ((.int (K_tog S C (nI w))) : Value) ∧ σ' = σ) = Q
  refine Ret.start pm_208 rfl ?_
  have hn := hw.1
  have as0 : A s = nI S.1 := hS.1
  refine Ev.iconst (v := 0) rfl (by decide) ?_
  refine Ev.istore rfl rfl rfl ?_
  refine Ev.iconst (v := 0) rfl (by decide) ?_
  refine Ev.istore rfl rfl rfl ?_
  skip
  refine Ev.cg (L' := [some (.ref y), some (.int (nI s)), some (.int (nI c)), some (.int (nI w)), some (.int 0), some (.int (nI 0))]) ?_ (by first | rfl | simp [nI_0])
  refine lp (fun i z => Ev Γ 0 0 m_M_learntIn 0 0 6 [some (.ref y), some (.int (nI s)), some (.int (nI c)), some (.int (nI w)), some (.int z), some (.int (nI i))] [] σ Q) (fun l x => x + (if K_bit (nI w) (nI l) = 1 then K_by S C (nI w) l else 0)) (S.1) (fun i z hi hnx => ?_) (S.1) 0 (0) (by omega) ?_
  · skip
    refine Ev.iload rfl rfl ?_
    refine Ev.aload_n rfl rfl ?_
    refine Ev.getf rfl rfl (by assumption) rfl ?_
    refine Ev.iload_n rfl rfl ?_
    refine Ev.ialdN (k := s) rfl (by assumption) rfl ⟨(by omega), by decide⟩ ?_
    rw [as0]
    refine Ev.icmp_ge (tgt := 51) rfl (by decide) (fun c14 => absurd c14 (nI_ge hi (by omega))) (fun c14 => ?_)
    refine Ev.iload rfl rfl ?_
    refine Ev.iload_n rfl rfl ?_
    refine Ev.iload rfl rfl ?_
    refine Ev.ishr rfl ?_
    refine Ev.iconst (v := 1) rfl (by decide) ?_
    refine Ev.iand rfl ?_
    refine Ev.iconst (v := 1) rfl (by decide) ?_
    refine Ev.icmp_ne (tgt := 41) rfl (by decide) (fun c26 => ?_) (fun c26 => ?_)
    · skip
      refine Ev.iconst (v := 0) rfl (by decide) ?_
      refine Ev.iadd rfl ?_
      refine Ev.istore rfl rfl rfl ?_
      refine Ev.iinc (d := 1) rfl rfl rfl (by decide) rfl ?_
      refine Ev.goto (tgt := 6) rfl (by decide) ?_
      exact hnx.cg (by first | (simp [nI_1, K_bit, *]; done) | (simp [nI_1, K_bit, *]; rfl))
    · skip
      refine Ev.aload_n rfl rfl ?_
      refine Ev.iload_n rfl rfl ?_
      refine Ev.iload_n rfl rfl ?_
      refine Ev.iload rfl rfl ?_
      refine Ev.iload_n rfl rfl ?_
      refine Ev.cV4 rfl rfl (by assumption) rfl rfl (by decide) ⟨(Nat.le_refl _), (Nat.le_refl _)⟩ (m_by_ok hM hS hs hw hC hc hl hg i hi w hW) ?_
      refine Ev.goto (tgt := 42) rfl (by decide) ?_
      refine Ev.iadd rfl ?_
      refine Ev.istore rfl rfl rfl ?_
      refine Ev.iinc (d := 1) rfl rfl rfl (by decide) rfl ?_
      refine Ev.goto (tgt := 6) rfl (by decide) ?_
      exact hnx.cg (by first | (simp [nI_1, K_bit, *]; done) | (simp [nI_1, K_bit, *]; rfl))
  · skip
    refine Ev.iload rfl rfl ?_
    refine Ev.aload_n rfl rfl ?_
    refine Ev.getf rfl rfl (by assumption) rfl ?_
    refine Ev.iload_n rfl rfl ?_
    refine Ev.ialdN (k := s) rfl (by assumption) rfl ⟨(by omega), by decide⟩ ?_
    rw [as0]
    refine Ev.icmp_ge (tgt := 51) rfl (by decide) (fun c14 => ?_) (fun c14 => absurd (nI_le (Nat.le_refl _) (by omega)) c14)
    refine Ev.iload rfl rfl ?_
    refine Ev.iret (ty := .int) rfl rfl rfl (Nat.le_refl _) (Nat.le_refl _) ?_
    rw [← hQ]
    exact ⟨by rw [tog_by hw hW], rfl⟩
theorem pl_1 (k : Nat) : (970 : Int32) + 40 * nI k = nI (970 + 40 * k) := by
  rw [show (970 : Int32) = nI 970 from rfl, show (40 : Int32) = nI 40 from rfl, pk_mul, nI_add]
theorem pl_0 (k : Nat) : (610 : Int32) + 120 * nI k = nI (610 + 120 * k) := by
  rw [show (610 : Int32) = nI 610 from rfl, show (120 : Int32) = nI 120 from rfl, pk_mul, nI_add]
theorem m_pl1_ok (k : Nat) : RetV Γ m_M_placeOf [.int 1, .int (nI k)] σ (.int (nI (970 + 40 * k))) := by
  have h := m_place_ok (Γ := Γ) (σ := σ) 1 (nI k)
  rw [if_neg (by decide), pl_1] at h
  exact h
theorem m_pl0_ok (k : Nat) : RetV Γ m_M_placeOf [.int 0, .int (nI k)] σ (.int (nI (610 + 120 * k))) := by
  have h := m_place_ok (Γ := Γ) (σ := σ) 0 (nI k)
  rw [if_pos rfl, pl_0] at h
  exact h
theorem cl_at (p k : Nat) : nI (970 + 40 * p) + 1 + 6 * nI k = nI (970 + 40 * p + 1 + 6 * k) := by
  rw [show (1 : Int32) = nI 1 from rfl, show (6 : Int32) = nI 6 from rfl, pk_mul, nI_add, nI_add]
theorem m_classAt_ok (hM : isM σ y g A) (k : Nat) : RetV Γ m_M_classAt [.ref y, .int (nI p), .int (nI k)] σ (.int (nI (970 + 40 * p + 1 + 6 * k))) := by
  obtain ⟨m0, m1⟩ := id hM
  unfold RetV
  generalize hQ : (fun (r : Option Value) (σ' : ex_S) => r = some ((.int (nI (970 + 40 * p + 1 + 6 * k))) : Value) ∧ σ' = σ) = Q
  refine Ret.start pm_195 rfl ?_
  refine Ev.iconst (v := 1) rfl (by decide) ?_
  refine Ev.iload_n rfl rfl ?_
  refine Ev.cS2 rfl rfl rfl (by decide) ⟨(Nat.le_refl _), (Nat.le_refl _)⟩ (m_pl1_ok p) ?_
  refine Ev.iconst (v := 1) rfl (by decide) ?_
  refine Ev.iadd rfl ?_
  refine Ev.bipush (v := 6) rfl (by decide) ?_
  refine Ev.iload_n rfl rfl ?_
  refine Ev.imul rfl ?_
  refine Ev.iadd rfl ?_
  refine Ev.iret (ty := .int) rfl rfl rfl (Nat.le_refl _) (Nat.le_refl _) ?_
  rw [← hQ]
  exact ⟨by rw [cl_at], rfl⟩
theorem m_sitsIn_ok (hM : isM σ y g A) (hP : mP A (970 + 40 * p) P) (hp : p < 3) (h6 : P.1 ≤ 6) (k : Nat) (hk : k < P.1) : RetV Γ m_M_sitsIn [.ref y, .int (nI p), .int (nI k)] σ (.int (P.2 k 5)) := by
  obtain ⟨m0, m1⟩ := id hM
  unfold RetV
  generalize hQ : (fun (r : Option Value) (σ' : ex_S) => r = some ((.int (P.2 k 5)) : Value) ∧ σ' = σ) = Q
  refine Ret.start pm_209 rfl ?_
  refine Ev.aload_n rfl rfl ?_
  refine Ev.getf rfl rfl (by assumption) rfl ?_
  refine Ev.aload_n rfl rfl ?_
  refine Ev.iload_n rfl rfl ?_
  refine Ev.iload_n rfl rfl ?_
  refine Ev.cV2 rfl rfl (by assumption) rfl rfl (by decide) ⟨(Nat.le_refl _), (Nat.le_refl _)⟩ (m_classAt_ok hM k) ?_
  refine Ev.iconst (v := 5) rfl (by decide) ?_
  refine Ev.iadd rfl ?_
  refine Ev.ialdN (k := 970 + 40 * p + 1 + 6 * k + 5) rfl (by assumption) (nI_add _ 5) ⟨(by omega), by decide⟩ ?_
  refine Ev.iret (ty := .int) rfl rfl rfl (Nat.le_refl _) (Nat.le_refl _) ?_
  rw [← hQ]
  exact ⟨by rw [hP.2 k hk 5 (by decide)], rfl⟩
theorem m_classes_ok (hM : isM σ y g A) (hP : mP A (970 + 40 * p) P) (hp : p < 3) (h6 : P.1 ≤ 6)  : RetV Γ m_M_classesOf [.ref y, .int (nI p)] σ (.int (nI P.1)) := by
  obtain ⟨m0, m1⟩ := id hM
  unfold RetV
  generalize hQ : (fun (r : Option Value) (σ' : ex_S) => r = some ((.int (nI P.1)) : Value) ∧ σ' = σ) = Q
  refine Ret.start pm_210 rfl ?_
  refine Ev.aload_n rfl rfl ?_
  refine Ev.getf rfl rfl (by assumption) rfl ?_
  refine Ev.iconst (v := 1) rfl (by decide) ?_
  refine Ev.iload_n rfl rfl ?_
  refine Ev.cS2 rfl rfl rfl (by decide) ⟨(Nat.le_refl _), (Nat.le_refl _)⟩ (m_pl1_ok p) ?_
  refine Ev.ialdN (k := 970 + 40 * p) rfl (by assumption) rfl ⟨(by omega), by decide⟩ ?_
  refine Ev.iret (ty := .int) rfl rfl rfl (Nat.le_refl _) (Nat.le_refl _) ?_
  rw [← hQ]
  exact ⟨by rw [hP.1], rfl⟩
def goP (S : Sch) (P : Pln) : Prop := ∀ k, k < P.1 → goT S (P.2 k) ∧ ∃ w, w < 2 ^ S.1 ∧ P.2 k 5 = nI w
def wP (P : Pln) : Prop := P.1 ≤ 6 ∧ ∀ k, k < P.1 → wL (P.2 k)
theorem m_inAll_ok (hM : isM σ y g A) (hS : mS A s S) (hs : s + 120 ≤ 4500) (hw : wS S) (hP : mP A (970 + 40 * p) P) (hp : p < 3) (hwp : wP P) (hg : goP S P) : RetV Γ m_M_learntOf [.ref y, .int (nI s), .int (nI p)] σ (.int (K_inAll S P)) := by
  obtain ⟨m0, m1⟩ := id hM
  unfold RetV
  generalize hQ : (fun (r : Option Value) (σ' : ex_S) => r = some ((.int (K_inAll S P)) : Value) ∧ σ' = σ) = Q
  refine Ret.start pm_211 rfl ?_
  have h6 := hwp.1
  refine Ev.iconst (v := 0) rfl (by decide) ?_
  refine Ev.istore_n rfl rfl rfl ?_
  refine Ev.iconst (v := 0) rfl (by decide) ?_
  refine Ev.istore rfl rfl rfl ?_
  skip
  refine Ev.cg (L' := [some (.ref y), some (.int (nI s)), some (.int (nI p)), some (.int 0), some (.int (nI 0))]) ?_ (by first | rfl | simp [nI_0])
  refine lp (fun i z => Ev Γ 0 0 m_M_learntOf 0 0 5 [some (.ref y), some (.int (nI s)), some (.int (nI p)), some (.int z), some (.int (nI i))] [] σ Q) (fun k x => x + K_tog S (P.2 k) (P.2 k 5)) (P.1) (fun i z hi hnx => ?_) (P.1) 0 (0) (by omega) ?_
  · skip
    refine Ev.iload rfl rfl ?_
    refine Ev.aload_n rfl rfl ?_
    refine Ev.iload_n rfl rfl ?_
    refine Ev.cV1 rfl rfl (by assumption) rfl rfl (by decide) ⟨(Nat.le_refl _), (Nat.le_refl _)⟩ (m_classes_ok hM hP hp h6) ?_
    refine Ev.icmp_ge (tgt := 43) rfl (by decide) (fun c12 => absurd c12 (nI_ge hi (by omega))) (fun c12 => ?_)
    refine Ev.iload_n rfl rfl ?_
    refine Ev.aload_n rfl rfl ?_
    refine Ev.iload_n rfl rfl ?_
    refine Ev.aload_n rfl rfl ?_
    refine Ev.iload_n rfl rfl ?_
    refine Ev.iload rfl rfl ?_
    refine Ev.cV2 rfl rfl (by assumption) rfl rfl (by decide) ⟨(Nat.le_refl _), (Nat.le_refl _)⟩ (m_classAt_ok hM i) ?_
    refine Ev.aload_n rfl rfl ?_
    refine Ev.iload_n rfl rfl ?_
    refine Ev.iload rfl rfl ?_
    refine Ev.cV2 rfl rfl (by assumption) rfl rfl (by decide) ⟨(Nat.le_refl _), (Nat.le_refl _)⟩ (m_sitsIn_ok hM hP hp h6 i hi) ?_
    obtain ⟨w, hW, ew⟩ := (hg i hi).2
    rw [ew]
    refine Ev.cV3 rfl rfl (by assumption) rfl rfl (by decide) ⟨(Nat.le_refl _), (Nat.le_refl _)⟩ (m_tog_ok hM hS hs hw (hP.2 i hi) (by omega) (hwp.2 i hi) (hg i hi).1 w hW) ?_
    rw [← ew]
    refine Ev.iadd rfl ?_
    refine Ev.istore_n rfl rfl rfl ?_
    refine Ev.iinc (d := 1) rfl rfl rfl (by decide) rfl ?_
    refine Ev.goto (tgt := 5) rfl (by decide) ?_
    exact hnx.cg (by first | (simp [nI_1, *]; done) | (simp [nI_1, *]; rfl))
  · skip
    refine Ev.iload rfl rfl ?_
    refine Ev.aload_n rfl rfl ?_
    refine Ev.iload_n rfl rfl ?_
    refine Ev.cV1 rfl rfl (by assumption) rfl rfl (by decide) ⟨(Nat.le_refl _), (Nat.le_refl _)⟩ (m_classes_ok hM hP hp h6) ?_
    refine Ev.icmp_ge (tgt := 43) rfl (by decide) (fun c12 => ?_) (fun c12 => absurd (nI_le (Nat.le_refl _) (by omega)) c12)
    refine Ev.iload_n rfl rfl ?_
    refine Ev.iret (ty := .int) rfl rfl rfl (Nat.le_refl _) (Nat.le_refl _) ?_
    rw [← hQ]
    exact ⟨rfl, rfl⟩
theorem m_can_ok (hM : isM σ y g A) (hS : mS A s S) (hs : s + 120 ≤ 4500) (hw : wS S) (hC : mL A c C) (hc : c + 6 ≤ 4500) (l : Nat) (hll : l < S.1) : RetV Γ m_M_canSit [.ref y, .int (nI s), .int (nI c), .int (nI l)] σ (.int (K_can S C (nI l))) := by
  obtain ⟨m0, m1⟩ := id hM
  unfold RetV
  generalize hQ : (fun (r : Option Value) (σ' : ex_S) => r = some ((.int (K_can S C (nI l))) : Value) ∧ σ' = σ) = Q
  refine Ret.start pm_212 rfl ?_
  have hn := hw.1
  have a8 : A (s + 8) = S.2.2 9 6 := hS.2.2.1 6 (by decide)
  have hcl : (nI l).toNatClampNeg = l := nI_clamp (by omega)
  refine Ev.aload_n rfl rfl ?_
  refine Ev.getf rfl rfl (by assumption) rfl ?_
  refine Ev.iload_n rfl rfl ?_
  refine Ev.bipush (v := 29) rfl (by decide) ?_
  refine Ev.iadd rfl ?_
  refine Ev.iload_n rfl rfl ?_
  refine Ev.iadd rfl ?_
  refine Ev.ialdN (k := s + 29 + l) rfl (by assumption) (ix2 s 29 l) ⟨(by omega), by decide⟩ ?_
  rw [(hS.2.2.2.1 l hll).2.1]
  refine Ev.aload_n rfl rfl ?_
  refine Ev.getf rfl rfl (by assumption) rfl ?_
  refine Ev.iload_n rfl rfl ?_
  refine Ev.iconst (v := 2) rfl (by decide) ?_
  refine Ev.iadd rfl ?_
  refine Ev.ialdN (k := c + 2) rfl (by assumption) (nI_add c 2) ⟨(by omega), by decide⟩ ?_
  rw [hC 2 (by decide)]
  refine Ev.ishr rfl ?_
  refine Ev.iconst (v := 1) rfl (by decide) ?_
  refine Ev.iand rfl ?_
  refine Ev.iconst (v := 1) rfl (by decide) ?_
  refine Ev.icmp_ne (tgt := 53) rfl (by decide) (fun c23 => ?_) (fun c23 => ?_)
  · skip
    refine Ev.iconst (v := 0) rfl (by decide) ?_
    refine Ev.iret (ty := .boolean) rfl rfl rfl (Nat.le_refl _) (Nat.le_refl _) ?_
    rw [← hQ]
    refine ⟨?_, rfl⟩
    unfold K_can
    rw [hcl]
    have hb := bit_cases (S.2.2 1 l) (C 2)
    unfold K_bit at *
    rcases hb with hb | hb
    · simp_all
    · simp_all
  · skip
    refine Ev.aload_n rfl rfl ?_
    refine Ev.getf rfl rfl (by assumption) rfl ?_
    refine Ev.iload_n rfl rfl ?_
    refine Ev.bipush (v := 45) rfl (by decide) ?_
    refine Ev.iadd rfl ?_
    refine Ev.iload_n rfl rfl ?_
    refine Ev.iadd rfl ?_
    refine Ev.ialdN (k := s + 45 + l) rfl (by assumption) (ix2 s 45 l) ⟨(by omega), by decide⟩ ?_
    rw [(hS.2.2.2.1 l hll).2.2.1]
    refine Ev.aload_n rfl rfl ?_
    refine Ev.getf rfl rfl (by assumption) rfl ?_
    refine Ev.iload_n rfl rfl ?_
    refine Ev.bipush (v := 8) rfl (by decide) ?_
    refine Ev.iadd rfl ?_
    refine Ev.ialdN (k := s + 8) rfl (by assumption) (nI_add s 8) ⟨(by omega), by decide⟩ ?_
    rw [a8]
    refine Ev.icmp_lt (tgt := 53) rfl (by decide) (fun c46 => ?_) (fun c46 => ?_)
    · skip
      refine Ev.iconst (v := 0) rfl (by decide) ?_
      refine Ev.iret (ty := .boolean) rfl rfl rfl (Nat.le_refl _) (Nat.le_refl _) ?_
      rw [← hQ]
      refine ⟨?_, rfl⟩
      unfold K_can
      rw [hcl]
      have hb := bit_cases (S.2.2 1 l) (C 2)
      unfold K_bit at *
      rcases hb with hb | hb
      · simp_all
      · simp_all
    · skip
      refine Ev.iconst (v := 1) rfl (by decide) ?_
      refine Ev.goto (tgt := 54) rfl (by decide) ?_
      refine Ev.iret (ty := .boolean) rfl rfl rfl (Nat.le_refl _) (Nat.le_refl _) ?_
      rw [← hQ]
      refine ⟨?_, rfl⟩
      unfold K_can
      rw [hcl]
      have hb := bit_cases (S.2.2 1 l) (C 2)
      unfold K_bit at *
      rcases hb with hb | hb
      · simp_all
      · simp_all
end
end
