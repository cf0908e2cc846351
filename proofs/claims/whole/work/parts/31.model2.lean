/-! The reference: what is learnt. -/
noncomputable section
def wS (S : Sch) : Prop := S.1 ≤ 16 ∧ S.2.1 ≤ 5 ∧ (∀ i, i < S.1 → rg (S.2.2 0 i) 0 11 ∧ rg (S.2.2 1 i) 1 63 ∧ rg (S.2.2 2 i) 0 999 ∧ (S.2.2 3 i = -1 ∨ ∃ q, q < S.1 ∧ q ≠ i ∧ S.2.2 3 i = nI q ∧ S.2.2 3 q = nI i) ∧ rg (S.2.2 4 i) 0 100) ∧ (∀ i, i < S.2.1 → rg (S.2.2 5 i) 1 63 ∧ rg (S.2.2 6 i) 0 3) ∧ (∀ d, d < 7 → rg (S.2.2 7 d) 0 99 ∧ rg (S.2.2 8 d) 0 100) ∧
  rg (S.2.2 9 0) 1 15 ∧ rg (S.2.2 9 1) 0 20 ∧ rg (S.2.2 9 2) 1 15 ∧ rg (S.2.2 9 3) 1 15 ∧ S.2.2 9 2 ≤ S.2.2 9 3 ∧ rg (S.2.2 9 4) 1 9 ∧ rg (S.2.2 9 5) 0 999 ∧ rg (S.2.2 9 6) 0 999 ∧ rg (S.2.2 9 7) 1 30 ∧ rg (S.2.2 9 8) 0 99 ∧ rg (S.2.2 9 9) 0 99 ∧ rg (S.2.2 9 10) 0 200
def wL (C : Les) : Prop := rg (C 0) 0 4 ∧ rg (C 1) 0 4 ∧ rg (C 2) 0 5 ∧ rg (C 3) 0 11 ∧ rg (C 4) (-1) 11 ∧ rg (C 5) 0 65535
def goT (S : Sch) (C : Les) : Prop := ∃ t, t < S.2.1 ∧ C 1 = nI t
theorem rg.mono {x : Int32} {a b c d : Int} (h : rg x a b) (h1 : c ≤ a) (h2 : b ≤ d) : rg x c d := ⟨by have := h.1; omega, by have := h.2; omega⟩
theorem bd {x y : Int32} (hx : rg x (-100) 100) (hy : rg y (-100) 100) : -1000 < (x - y).toInt ∧ (x - y).toInt < 1000 := by
  rw [sub_toInt hx hy (by decide) (by decide) (by decide) (by decide)]
  obtain ⟨a, b⟩ := hx
  obtain ⟨c, d⟩ := hy
  omega
theorem ix2 (s a b : Nat) : nI s + nI a + nI b = nI (s + a + b) := by rw [nI_add, nI_add]
theorem rg_nI {q : Nat} {a b : Int} (h1 : a ≤ q) (h2 : (q : Int) ≤ b) (h3 : q < 2 ^ 31) : rg (nI q) a b := by
  unfold rg
  rw [nI_toInt h3]
  exact ⟨h1, h2⟩
def K_many (w : Int32) : Int32 := fo (fun k x => x + K_bit w (nI k)) 16 0 0
theorem many_nI {m : Nat} (h : m < 65536) : K_many (nI m) = K_bc (nI m) := by
  rw [bc_nI (by omega)]
  have e : ∀ (k i x : Nat), i + k ≤ 17 → fo (fun k x => x + K_bit (nI m) (nI k)) k i (nI x) = nI (fo (fun k x => x + m / 2 ^ k % 2) k i x) := by
    intro k
    induction k with
    | zero => intro i x _; rfl
    | succ k ih =>
      intro i x hi
      rw [fo_succ, fo_succ, bit_nI (by omega) (by omega), nI_add]
      exact ih (i + 1) _ (by omega)
  have hp : pop m = fo (fun k x => x + m / 2 ^ k % 2) 16 0 0 + m / 2 ^ 16 % 2 := fo_last _ 16 0 0
  have h0 := e 16 0 0 (by decide)
  rw [nI_0] at h0
  unfold K_many
  rw [h0, hp, Nat.div_eq_of_lt h]
  rfl
theorem pop_le (m : Nat) : pop m ≤ 17 := by
  have := fo_inv (F := fun k x => x + m / 2 ^ k % 2) (fun j x => x ≤ j) 17 0 0 (Nat.le_refl _) (fun j y _ _ h => by have := Nat.mod_lt (m / 2 ^ j) (show 2 > 0 by decide); omega)
  exact this
theorem part_eq {S : Sch} (hw : wS S) {k : Nat} (hk : k ≤ 17) : K_part S (nI k) = (if 0 ≤ 100 - S.2.2 9 1 * (if nI k ≤ S.2.2 9 0 then 0 else nI k - S.2.2 9 0) then 100 - S.2.2 9 1 * (if nI k ≤ S.2.2 9 0 then 0 else nI k - S.2.2 9 0) else 0) := by
  obtain ⟨-, -, -, -, -, h0, h1, -⟩ := hw
  have hkr : rg (nI k) 0 17 := rg_nI (by omega) (by omega) (by omega)
  have hd := sub_toInt hkr h0 (by decide) (by decide) (by decide) (by decide)
  have z : (0 : Int32).toInt = 0 := by decide
  have e : K_max 0 (nI k - S.2.2 9 0) = (if nI k ≤ S.2.2 9 0 then 0 else nI k - S.2.2 9 0) := by
    unfold K_max
    by_cases h : nI k ≤ S.2.2 9 0
    · rw [if_pos h, if_neg (by rw [lt_toInt, hd, z]; rw [le_toInt] at h; omega)]
    · rw [if_neg h, if_pos (by rw [lt_toInt, hd, z]; rw [le_toInt] at h; omega)]
  unfold K_part
  rw [e]
  generalize 100 - S.2.2 9 1 * (if nI k ≤ S.2.2 9 0 then 0 else nI k - S.2.2 9 0) = v
  unfold K_max
  by_cases h : 0 ≤ v
  · rw [if_pos h]
    by_cases h2 : 0 < v
    · rw [if_pos h2]
    · rw [if_neg h2]
      rw [le_toInt] at h
      rw [lt_toInt] at h2
      rw [eq_toInt]
      omega
  · rw [if_neg h, if_neg (by rw [lt_toInt]; rw [le_toInt] at h; omega)]
def F_tells (S : Sch) (w : Int32) (l o : Nat) (x : Int32) : Int32 := if ¬ x = 0 then 1 else if nI o = nI l then 0 else if ¬ K_bit w (nI o) = 1 then 0 else if ¬ K_abs (S.2.2 0 o - S.2.2 0 l) = 1 then 0 else 1
theorem tells_iff {S : Sch} {w : Int32} {l : Nat} : ∀ (k i : Nat) (x : Int32), (x = 0 ∨ x = 1) → (fo (F_tells S w l) k i x = 0 ∨ fo (F_tells S w l) k i x = 1) ∧ (¬ fo (F_tells S w l) k i x = 0 ↔ ¬ x = 0 ∨ ∃ o, i ≤ o ∧ o < i + k ∧ ¬ nI o = nI l ∧ K_bit w (nI o) = 1 ∧ K_abs (S.2.2 0 o - S.2.2 0 l) = 1) := by
  intro k
  induction k with
  | zero =>
    intro i x hx
    refine ⟨hx, ?_⟩
    constructor
    · intro h; exact Or.inl h
    · rintro (h | ⟨o, h1, h2, -⟩)
      · exact h
      · omega
  | succ k ih =>
    intro i x hx
    rw [fo_succ]
    have hF : F_tells S w l i x = 0 ∨ F_tells S w l i x = 1 := by
      unfold F_tells
      repeat' split
      all_goals simp
    obtain ⟨h1, h2⟩ := ih (i + 1) (F_tells S w l i x) hF
    refine ⟨h1, ?_⟩
    rw [h2]
    have hF2 : ¬ F_tells S w l i x = 0 ↔ ¬ x = 0 ∨ (¬ nI i = nI l ∧ K_bit w (nI i) = 1 ∧ K_abs (S.2.2 0 i - S.2.2 0 l) = 1) := by
      unfold F_tells
      by_cases q1 : x = 0
      · by_cases q2 : nI i = nI l
        · simp [q1, q2]
        · by_cases q3 : K_bit w (nI i) = 1
          · by_cases q4 : K_abs (S.2.2 0 i - S.2.2 0 l) = 1
            · simp [q1, q2, q3, q4]
            · simp [q1, q2, q3, q4]
          · simp [q1, q2, q3]
      · simp [q1]
    rw [hF2]
    constructor
    · rintro ((h | h) | ⟨o, a1, a2, a3⟩)
      · exact Or.inl h
      · exact Or.inr ⟨i, Nat.le_refl _, by omega, h⟩
      · exact Or.inr ⟨o, by omega, by omega, a3⟩
    · rintro (h | ⟨o, a1, a2, a3⟩)
      · exact Or.inl (Or.inl h)
      · by_cases ho : o = i
        · subst ho
          exact Or.inl (Or.inr a3)
        · exact Or.inr ⟨o, by omega, by omega, a3⟩
section
variable {Γ : ex_G} {σ : ex_S} {y s c : Nat} {g A : Nat → Int32} {S : Sch} {C : Les} {P : Pln}
theorem m_step_ok (hM : isM σ y g A) (hS : mS A s S) (hs : s + 120 ≤ 4500) (hw : wS S) (l : Nat) (hl : l < S.1) : RetV Γ m_M_stepOf [.ref y, .int (nI s), .int (nI l)] σ (.int (S.2.2 0 l)) := by
  obtain ⟨m0, m1⟩ := id hM
  unfold RetV
  generalize hQ : (fun (r : Option Value) (σ' : ex_S) => r = some ((.int (S.2.2 0 l)) : Value) ∧ σ' = σ) = Q
  refine Ret.start pm_203 rfl ?_
  refine Ev.aload_n rfl rfl ?_
  refine Ev.getf rfl rfl (by assumption) rfl ?_
  refine Ev.iload_n rfl rfl ?_
  refine Ev.bipush (v := 13) rfl (by decide) ?_
  refine Ev.iadd rfl ?_
  refine Ev.iload_n rfl rfl ?_
  refine Ev.iadd rfl ?_
  refine Ev.ialdN (k := s + 13 + l) rfl (by assumption) (ix2 s 13 l) ⟨(by have := hw.1; omega), by decide⟩ ?_
  refine Ev.iret (ty := .int) rfl rfl rfl (Nat.le_refl _) (Nat.le_refl _) ?_
  rw [← hQ]
  refine ⟨?_, rfl⟩
  rw [(hS.2.2.2.1 l hl).1]
theorem m_many_ok (w : Int32) : RetV Γ m_M_many [.int w] σ (.int (K_many w)) := by
  unfold RetV
  generalize hQ : (fun (r : Option Value) (σ' : ex_S) => r = some (Value.int (K_many w)) ∧ σ' = σ) = Q
  refine Ret.start pm_205 rfl ?_
  refine Ev.iconst (v := 0) rfl (by decide) ?_
  refine Ev.istore_n rfl rfl rfl ?_
  refine Ev.iconst (v := 0) rfl (by decide) ?_
  refine Ev.istore_n rfl rfl rfl ?_
  skip
  have e16 : (16 : Int32) = nI 16 := rfl
  refine Ev.cg (L' := [some (.int w), some (.int 0), some (.int (nI 0))]) ?_ (by first | rfl | simp [nI_0])
  refine lp (fun i z => Ev Γ 0 0 m_M_many 0 0 4 [some (.int w), some (.int z), some (.int (nI i))] [] σ Q) (fun k x => x + K_bit w (nI k)) (16) (fun i z hi hnx => ?_) (16) 0 (0) (by omega) ?_
  · skip
    refine Ev.iload_n rfl rfl ?_
    refine Ev.bipush (v := 16) rfl (by decide) ?_
    rw [e16]
    refine Ev.icmp_ge (tgt := 24) rfl (by decide) (fun c7 => absurd c7 (nI_ge hi (by omega))) (fun c7 => ?_)
    refine Ev.iload_n rfl rfl ?_
    refine Ev.iload_n rfl rfl ?_
    refine Ev.iload_n rfl rfl ?_
    refine Ev.ishr rfl ?_
    refine Ev.iconst (v := 1) rfl (by decide) ?_
    refine Ev.iand rfl ?_
    refine Ev.iadd rfl ?_
    refine Ev.istore_n rfl rfl rfl ?_
    refine Ev.iinc (d := 1) rfl rfl rfl (by decide) rfl ?_
    refine Ev.goto (tgt := 4) rfl (by decide) ?_
    exact hnx.cg (by first | (simp [nI_1, K_bit, *]; done) | (simp [nI_1, K_bit, *]; rfl))
  · skip
    refine Ev.iload_n rfl rfl ?_
    refine Ev.bipush (v := 16) rfl (by decide) ?_
    rw [e16]
    refine Ev.icmp_ge (tgt := 24) rfl (by decide) (fun c7 => ?_) (fun c7 => absurd (nI_le (Nat.le_refl _) (by omega)) c7)
    refine Ev.iload_n rfl rfl ?_
    refine Ev.iret (ty := .int) rfl rfl rfl (Nat.le_refl _) (Nat.le_refl _) ?_
    rw [← hQ]
    exact ⟨rfl, rfl⟩
theorem m_leaves_ok (hM : isM σ y g A) (hS : mS A s S) (hs : s + 120 ≤ 4500) (hw : wS S) (k : Nat) (hk : k ≤ 17) : RetV Γ m_M_leaves [.ref y, .int (nI s), .int (nI k)] σ (.int (K_part S (nI k))) := by
  obtain ⟨m0, m1⟩ := id hM
  unfold RetV
  generalize hQ : (fun (r : Option Value) (σ' : ex_S) => r = some ((.int (K_part S (nI k))) : Value) ∧ σ' = σ) = Q
  refine Ret.start pm_206 rfl ?_
  have a0 : A (s + 2) = S.2.2 9 0 := hS.2.2.1 0 (by decide)
  have a1 : A (s + 3) = S.2.2 9 1 := hS.2.2.1 1 (by decide)
  refine Ev.iload_n rfl rfl ?_
  refine Ev.aload_n rfl rfl ?_
  refine Ev.getf rfl rfl (by assumption) rfl ?_
  refine Ev.iload_n rfl rfl ?_
  refine Ev.iconst (v := 2) rfl (by decide) ?_
  refine Ev.iadd rfl ?_
  refine Ev.ialdN (k := s + 2) rfl (by assumption) (nI_add s 2) ⟨(by omega), by decide⟩ ?_
  rw [a0]
  refine Ev.icmp_le (tgt := 25) rfl (by decide) (fun c9 => ?_) (fun c9 => ?_)
  · skip
    refine Ev.iconst (v := 0) rfl (by decide) ?_
    refine Ev.istore_n rfl rfl rfl ?_
    refine Ev.bipush (v := 100) rfl (by decide) ?_
    refine Ev.aload_n rfl rfl ?_
    refine Ev.getf rfl rfl (by assumption) rfl ?_
    refine Ev.iload_n rfl rfl ?_
    refine Ev.iconst (v := 3) rfl (by decide) ?_
    refine Ev.iadd rfl ?_
    refine Ev.ialdN (k := s + 3) rfl (by assumption) (nI_add s 3) ⟨(by omega), by decide⟩ ?_
    rw [a1]
    refine Ev.iload_n rfl rfl ?_
    refine Ev.imul rfl ?_
    refine Ev.isub rfl ?_
    refine Ev.istore rfl rfl rfl ?_
    refine Ev.iload rfl rfl ?_
    refine Ev.if_ge (tgt := 51) rfl (by decide) (fun c44 => ?_) (fun c44 => ?_)
    · skip
      refine Ev.iload rfl rfl ?_
      refine Ev.iret (ty := .int) rfl rfl rfl (Nat.le_refl _) (Nat.le_refl _) ?_
      rw [← hQ]
      refine ⟨?_, rfl⟩
      rw [part_eq hw hk]
      first | (rw [if_pos c9]; first | rw [if_pos c44] | rw [if_neg c44]) | (rw [if_neg c9]; first | rw [if_pos c44] | rw [if_neg c44])
    · skip
      refine Ev.iconst (v := 0) rfl (by decide) ?_
      refine Ev.goto (tgt := 53) rfl (by decide) ?_
      refine Ev.iret (ty := .int) rfl rfl rfl (Nat.le_refl _) (Nat.le_refl _) ?_
      rw [← hQ]
      refine ⟨?_, rfl⟩
      rw [part_eq hw hk]
      first | (rw [if_pos c9]; first | rw [if_pos c44] | rw [if_neg c44]) | (rw [if_neg c9]; first | rw [if_pos c44] | rw [if_neg c44])
  · skip
    refine Ev.iload_n rfl rfl ?_
    refine Ev.aload_n rfl rfl ?_
    refine Ev.getf rfl rfl (by assumption) rfl ?_
    refine Ev.iload_n rfl rfl ?_
    refine Ev.iconst (v := 2) rfl (by decide) ?_
    refine Ev.iadd rfl ?_
    refine Ev.ialdN (k := s + 2) rfl (by assumption) (nI_add s 2) ⟨(by omega), by decide⟩ ?_
    rw [a0]
    refine Ev.isub rfl ?_
    refine Ev.goto (tgt := 26) rfl (by decide) ?_
    refine Ev.istore_n rfl rfl rfl ?_
    refine Ev.bipush (v := 100) rfl (by decide) ?_
    refine Ev.aload_n rfl rfl ?_
    refine Ev.getf rfl rfl (by assumption) rfl ?_
    refine Ev.iload_n rfl rfl ?_
    refine Ev.iconst (v := 3) rfl (by decide) ?_
    refine Ev.iadd rfl ?_
    refine Ev.ialdN (k := s + 3) rfl (by assumption) (nI_add s 3) ⟨(by omega), by decide⟩ ?_
    rw [a1]
    refine Ev.iload_n rfl rfl ?_
    refine Ev.imul rfl ?_
    refine Ev.isub rfl ?_
    refine Ev.istore rfl rfl rfl ?_
    refine Ev.iload rfl rfl ?_
    refine Ev.if_ge (tgt := 51) rfl (by decide) (fun c44 => ?_) (fun c44 => ?_)
    · skip
      refine Ev.iload rfl rfl ?_
      refine Ev.iret (ty := .int) rfl rfl rfl (Nat.le_refl _) (Nat.le_refl _) ?_
      rw [← hQ]
      refine ⟨?_, rfl⟩
      rw [part_eq hw hk]
      first | (rw [if_pos c9]; first | rw [if_pos c44] | rw [if_neg c44]) | (rw [if_neg c9]; first | rw [if_pos c44] | rw [if_neg c44])
    · skip
      refine Ev.iconst (v := 0) rfl (by decide) ?_
      refine Ev.goto (tgt := 53) rfl (by decide) ?_
      refine Ev.iret (ty := .int) rfl rfl rfl (Nat.le_refl _) (Nat.le_refl _) ?_
      rw [← hQ]
      refine ⟨?_, rfl⟩
      rw [part_eq hw hk]
      first | (rw [if_pos c9]; first | rw [if_pos c44] | rw [if_neg c44]) | (rw [if_neg c9]; first | rw [if_pos c44] | rw [if_neg c44])
theorem m_plain_ok (hM : isM σ y g A) (hS : mS A s S) (hs : s + 120 ≤ 4500) (hw : wS S) (hC : mL A c C) (hc : c + 6 ≤ 4500) (hl : wL C) (hg : goT S C) (own : Int32) (ho : rg own 0 12) : RetV Γ m_M_plainFit [.ref y, .int (nI s), .int (nI c), .int own] σ (.int (K_alone S C own)) := by
  obtain ⟨m0, m1⟩ := id hM
  unfold RetV
  generalize hQ : (fun (r : Option Value) (σ' : ex_S) => r = some ((.int (K_alone S C own)) : Value) ∧ σ' = σ) = Q
  refine Ret.start pm_202 rfl ?_
  obtain ⟨t, ht, et⟩ := hg
  have r3 : rg (C 3) (-100) 100 := hl.2.2.2.1.mono (by decide) (by decide)
  have r4 : rg (C 4) (-100) 100 := hl.2.2.2.2.1.mono (by decide) (by decide)
  have ro : rg own (-100) 100 := ho.mono (by decide) (by decide)
  have hbr : rg (S.2.2 6 t) 0 3 := (hw.2.2.2.1 t ht).2
  have ht5 : t < 5 := by have := hw.2.1; omega
  have n1 : (nI t).toNatClampNeg = t := nI_clamp (by omega)
  have b1 : own + (C 3 - own - S.2.2 6 t) = C 3 - S.2.2 6 t := by grind
  have b2 : own + (C 3 - own + S.2.2 6 t) = C 3 + S.2.2 6 t := by grind
  have b3 : own + 0 = own := by grind
  have q1 : rg (C 3 - S.2.2 6 t) (-100) 100 := by
    unfold rg
    rw [sub_toInt hl.2.2.2.1 hbr (by decide) (by decide) (by decide) (by decide)]
    have := hl.2.2.2.1
    unfold rg at this hbr
    omega
  have q2 : rg (C 3 + S.2.2 6 t) (-100) 100 := by
    unfold rg
    rw [add_toInt hl.2.2.2.1 hbr (by decide) (by decide) (by decide) (by decide)]
    have := hl.2.2.2.1
    unfold rg at this hbr
    omega
  have a12 : A (s + 12) = S.2.2 9 10 := hS.2.2.1 10 (by decide)
  have a98 : A (s + 98 + t) = S.2.2 6 t := (hS.2.2.2.2.1 t ht).2
  refine Ev.aload_n rfl rfl ?_
  refine Ev.getf rfl rfl (by assumption) rfl ?_
  refine Ev.iload_n rfl rfl ?_
  refine Ev.iconst (v := 3) rfl (by decide) ?_
  refine Ev.iadd rfl ?_
  refine Ev.ialdN (k := c + 3) rfl (by assumption) (nI_add c 3) ⟨(by omega), by decide⟩ ?_
  rw [hC 3 (by decide)]
  refine Ev.istore rfl rfl rfl ?_
  refine Ev.aload_n rfl rfl ?_
  refine Ev.getf rfl rfl (by assumption) rfl ?_
  refine Ev.iload_n rfl rfl ?_
  refine Ev.iconst (v := 0) rfl (by decide) ?_
  refine Ev.iadd rfl ?_
  refine Ev.ialdN (k := c + 0) rfl (by assumption) (nI_add c 0) ⟨(by omega), by decide⟩ ?_
  rw [hC 0 (by decide)]
  refine Ev.istore rfl rfl rfl ?_
  refine Ev.iload rfl rfl ?_
  refine Ev.iconst (v := 1) rfl (by decide) ?_
  refine Ev.icmp_ne (tgt := 52) rfl (by decide) (fun c23 => ?_) (fun c23 => ?_)
  · skip
    refine Ev.iload rfl rfl ?_
    refine Ev.iconst (v := 3) rfl (by decide) ?_
    refine Ev.icmp_ne (tgt := 80) rfl (by decide) (fun c55 => ?_) (fun c55 => ?_)
    · skip
      refine Ev.iload rfl rfl ?_
      refine Ev.iconst (v := 2) rfl (by decide) ?_
      refine Ev.icmp_ne (tgt := 157) rfl (by decide) (fun c83 => ?_) (fun c83 => ?_)
      · skip
        refine Ev.aload_n rfl rfl ?_
        refine Ev.iload_n rfl rfl ?_
        refine Ev.iload rfl rfl ?_
        refine Ev.iload_n rfl rfl ?_
        refine Ev.cV3 rfl rfl (by assumption) rfl rfl (by decide) ⟨(Nat.le_refl _), (Nat.le_refl _)⟩ (m_base_ok hM hS hs _ _ (bd r3 ro).1 (bd r3 ro).2) ?_
        refine Ev.iret (ty := .int) rfl rfl rfl (Nat.le_refl _) (Nat.le_refl _) ?_
        rw [← hQ]
        refine ⟨?_, rfl⟩
        simp [K_alone, K_nearer, *]
      · skip
        refine Ev.aload_n rfl rfl ?_
        refine Ev.getf rfl rfl (by assumption) rfl ?_
        refine Ev.iload_n rfl rfl ?_
        refine Ev.bipush (v := 98) rfl (by decide) ?_
        refine Ev.iadd rfl ?_
        refine Ev.aload_n rfl rfl ?_
        refine Ev.getf rfl rfl (by assumption) rfl ?_
        refine Ev.iload_n rfl rfl ?_
        refine Ev.iconst (v := 1) rfl (by decide) ?_
        refine Ev.iadd rfl ?_
        refine Ev.ialdN (k := c + 1) rfl (by assumption) (nI_add c 1) ⟨(by omega), by decide⟩ ?_
        rw [hC 1 (by decide)]
        refine Ev.iadd rfl ?_
        refine Ev.ialdN (k := s + 98 + t) rfl (by assumption) (by rw [et]; exact ix2 s 98 t) ⟨(by omega), by decide⟩ ?_
        rw [a98]
        refine Ev.istore rfl rfl rfl ?_
        refine Ev.iload rfl rfl ?_
        refine Ev.iload_n rfl rfl ?_
        refine Ev.isub rfl ?_
        refine Ev.istore rfl rfl rfl ?_
        refine Ev.iload rfl rfl ?_
        refine Ev.iload rfl rfl ?_
        refine Ev.icmp_le (tgt := 127) rfl (by decide) (fun c116 => ?_) (fun c116 => ?_)
        · skip
          refine Ev.iload rfl rfl ?_
          refine Ev.iload rfl rfl ?_
          refine Ev.ineg rfl ?_
          refine Ev.icmp_ge (tgt := 143) rfl (by decide) (fun c132 => ?_) (fun c132 => ?_)
          · skip
            refine Ev.iconst (v := 0) rfl (by decide) ?_
            refine Ev.istore rfl rfl rfl ?_
            refine Ev.aload_n rfl rfl ?_
            refine Ev.iload_n rfl rfl ?_
            refine Ev.iload_n rfl rfl ?_
            refine Ev.iload rfl rfl ?_
            refine Ev.iadd rfl ?_
            first | rw [b1] | rw [b2] | rw [b3]
            refine Ev.iload_n rfl rfl ?_
            refine Ev.cV3 rfl rfl (by assumption) rfl rfl (by decide) ⟨(Nat.le_refl _), (Nat.le_refl _)⟩ (by first | exact (m_base_ok hM hS hs _ _ (bd q1 ro).1 (bd q1 ro).2) | exact (m_base_ok hM hS hs _ _ (bd q2 ro).1 (bd q2 ro).2) | exact (m_base_ok hM hS hs _ _ (bd ro ro).1 (bd ro ro).2)) ?_
            refine Ev.iret (ty := .int) rfl rfl rfl (Nat.le_refl _) (Nat.le_refl _) ?_
            rw [← hQ]
            refine ⟨?_, rfl⟩
            simp [K_alone, K_nearer, *]
          · skip
            refine Ev.iload rfl rfl ?_
            refine Ev.iload rfl rfl ?_
            refine Ev.iadd rfl ?_
            refine Ev.goto (tgt := 144) rfl (by decide) ?_
            refine Ev.istore rfl rfl rfl ?_
            refine Ev.aload_n rfl rfl ?_
            refine Ev.iload_n rfl rfl ?_
            refine Ev.iload_n rfl rfl ?_
            refine Ev.iload rfl rfl ?_
            refine Ev.iadd rfl ?_
            first | rw [b1] | rw [b2] | rw [b3]
            refine Ev.iload_n rfl rfl ?_
            refine Ev.cV3 rfl rfl (by assumption) rfl rfl (by decide) ⟨(Nat.le_refl _), (Nat.le_refl _)⟩ (by first | exact (m_base_ok hM hS hs _ _ (bd q1 ro).1 (bd q1 ro).2) | exact (m_base_ok hM hS hs _ _ (bd q2 ro).1 (bd q2 ro).2) | exact (m_base_ok hM hS hs _ _ (bd ro ro).1 (bd ro ro).2)) ?_
            refine Ev.iret (ty := .int) rfl rfl rfl (Nat.le_refl _) (Nat.le_refl _) ?_
            rw [← hQ]
            refine ⟨?_, rfl⟩
            simp [K_alone, K_nearer, *]
        · skip
          refine Ev.iload rfl rfl ?_
          refine Ev.iload rfl rfl ?_
          refine Ev.isub rfl ?_
          refine Ev.goto (tgt := 144) rfl (by decide) ?_
          refine Ev.istore rfl rfl rfl ?_
          refine Ev.aload_n rfl rfl ?_
          refine Ev.iload_n rfl rfl ?_
          refine Ev.iload_n rfl rfl ?_
          refine Ev.iload rfl rfl ?_
          refine Ev.iadd rfl ?_
          first | rw [b1] | rw [b2] | rw [b3]
          refine Ev.iload_n rfl rfl ?_
          refine Ev.cV3 rfl rfl (by assumption) rfl rfl (by decide) ⟨(Nat.le_refl _), (Nat.le_refl _)⟩ (by first | exact (m_base_ok hM hS hs _ _ (bd q1 ro).1 (bd q1 ro).2) | exact (m_base_ok hM hS hs _ _ (bd q2 ro).1 (bd q2 ro).2) | exact (m_base_ok hM hS hs _ _ (bd ro ro).1 (bd ro ro).2)) ?_
          refine Ev.iret (ty := .int) rfl rfl rfl (Nat.le_refl _) (Nat.le_refl _) ?_
          rw [← hQ]
          refine ⟨?_, rfl⟩
          simp [K_alone, K_nearer, *]
    · skip
      refine Ev.aload_n rfl rfl ?_
      refine Ev.iload_n rfl rfl ?_
      refine Ev.iload rfl rfl ?_
      refine Ev.iload_n rfl rfl ?_
      refine Ev.cV3 rfl rfl (by assumption) rfl rfl (by decide) ⟨(Nat.le_refl _), (Nat.le_refl _)⟩ (m_base_ok hM hS hs _ _ (bd r3 ro).1 (bd r3 ro).2) ?_
      refine Ev.aload_n rfl rfl ?_
      refine Ev.getf rfl rfl (by assumption) rfl ?_
      refine Ev.iload_n rfl rfl ?_
      refine Ev.bipush (v := 12) rfl (by decide) ?_
      refine Ev.iadd rfl ?_
      refine Ev.ialdN (k := s + 12) rfl (by assumption) (nI_add s 12) ⟨(by omega), by decide⟩ ?_
      rw [a12]
      refine Ev.imul rfl ?_
      refine Ev.bipush (v := 100) rfl (by decide) ?_
      refine Ev.idiv rfl (by decide) ?_
      refine Ev.iret (ty := .int) rfl rfl rfl (Nat.le_refl _) (Nat.le_refl _) ?_
      rw [← hQ]
      refine ⟨?_, rfl⟩
      simp [K_alone, K_nearer, *]
  · skip
    refine Ev.aload_n rfl rfl ?_
    refine Ev.iload_n rfl rfl ?_
    refine Ev.iload rfl rfl ?_
    refine Ev.iload_n rfl rfl ?_
    refine Ev.cV3 rfl rfl (by assumption) rfl rfl (by decide) ⟨(Nat.le_refl _), (Nat.le_refl _)⟩ (m_base_ok hM hS hs _ _ (bd r3 ro).1 (bd r3 ro).2) ?_
    refine Ev.aload_n rfl rfl ?_
    refine Ev.iload_n rfl rfl ?_
    refine Ev.aload_n rfl rfl ?_
    refine Ev.getf rfl rfl (by assumption) rfl ?_
    refine Ev.iload_n rfl rfl ?_
    refine Ev.iconst (v := 4) rfl (by decide) ?_
    refine Ev.iadd rfl ?_
    refine Ev.ialdN (k := c + 4) rfl (by assumption) (nI_add c 4) ⟨(by omega), by decide⟩ ?_
    rw [hC 4 (by decide)]
    refine Ev.iload_n rfl rfl ?_
    refine Ev.cV3 rfl rfl (by assumption) rfl rfl (by decide) ⟨(Nat.le_refl _), (Nat.le_refl _)⟩ (m_base_ok hM hS hs _ _ (bd r4 ro).1 (bd r4 ro).2) ?_
    refine Ev.iadd rfl ?_
    refine Ev.iconst (v := 2) rfl (by decide) ?_
    refine Ev.idiv rfl (by decide) ?_
    refine Ev.iret (ty := .int) rfl rfl rfl (Nat.le_refl _) (Nat.le_refl _) ?_
    rw [← hQ]
    refine ⟨?_, rfl⟩
    simp [K_alone, K_nearer, *]
end
end
