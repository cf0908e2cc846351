/-! Sitting beside: sets, the tables that tell what is most, and whom one sits beside, in whole numbers. -/
noncomputable section
/-- bit i taken out -/
def clr (s i : Nat) : Nat := s ^^^ (s &&& 2 ^ i)
theorem bclr_tb (s i j : Nat) : (clr s i).testBit j = (s.testBit j && decide (i ≠ j)) := by
  unfold clr
  rw [Nat.testBit_xor, Nat.testBit_and, Nat.testBit_two_pow]
  by_cases e : i = j
  · subst e
    simp
  · simp [e]
theorem clr_le (s i : Nat) : clr s i ≤ s := by
  apply Nat.le_of_testBit
  intro j h
  rw [bclr_tb, Bool.and_eq_true] at h
  exact h.1
theorem clr_lt {s i : Nat} (h : s.testBit i = true) : clr s i < s := by
  refine Nat.lt_of_le_of_ne (clr_le s i) (fun e => ?_)
  have q := bclr_tb s i i
  rw [e, h] at q
  simp at q
/-- the lowest bit -/
def low (s i : Nat) : Prop := s.testBit i = true ∧ ∀ j, j < i → s.testBit j = false
theorem low_ex {s : Nat} (h : 0 < s) : ∃ i, low s i := by
  have hx : ∃ i, s.testBit i = true := Nat.exists_testBit_of_ne_zero (by omega)
  obtain ⟨i, hi⟩ := hx
  have key : ∀ k, ∀ i, i ≤ k → s.testBit i = true → ∃ i, low s i := by
    intro k
    induction k with
    | zero =>
      intro i hi hb
      have : i = 0 := by omega
      subst this
      exact ⟨0, hb, fun j hj => absurd hj (Nat.not_lt_zero _)⟩
    | succ k ih =>
      intro i hi hb
      by_cases c : ∃ j, j < i ∧ s.testBit j = true
      · obtain ⟨j, hj, hjb⟩ := c
        exact ih j (by omega) hjb
      · refine ⟨i, hb, fun j hj => ?_⟩
        by_cases d : s.testBit j = true
        · exact absurd ⟨j, hj, d⟩ c
        · simpa using d
  exact key i i (Nat.le_refl _) hi
theorem low_uniq {s i j : Nat} (h : low s i) (h' : low s j) : i = j := by
  rcases Nat.lt_trichotomy i j with c | c | c
  · have := h'.2 i c
    rw [h.1] at this
    cases this
  · exact c
  · have := h.2 j c
    rw [h'.1] at this
    cases this
theorem low_pos {s i : Nat} (h : low s i) : 0 < s := by
  rcases Nat.eq_zero_or_pos s with c | c
  · subst c
    have := h.1
    simp at this
  · exact c
theorem low_lt {s i n : Nat} (h : low s i) (hs : s < 2 ^ n) : i < n := by
  refine Nat.lt_of_not_le (fun c => ?_)
  have := Nat.testBit_lt_two_pow (Nat.lt_of_lt_of_le hs (Nat.pow_le_pow_right (by decide) c))
  rw [h.1] at this
  cases this
/-- whom the lowest one may sit with: a later one who is there, or (n) nobody -/
def adm (n s f i : Nat) : Prop := f < i ∧ (i = n ∨ i < n ∧ s.testBit i = true)
def bvl (n : Nat) (v : Nat → Nat → Nat) (B : Nat → Nat) (s f i : Nat) : Nat := if i = n then B (clr s f) else v f i + B (clr (clr s f) i)
def isB (n : Nat) (v : Nat → Nat → Nat) (B : Nat → Nat) (s M : Nat) : Prop := ∃ f, low s f ∧ (∀ i, adm n s f i → bvl n v B s f i ≤ M) ∧ ∃ i, adm n s f i ∧ bvl n v B s f i = M
def Tb (n : Nat) (v : Nat → Nat → Nat) (B : Nat → Nat) (k : Nat) : Prop := B 0 = 0 ∧ ∀ s, 0 < s → s < k → isB n v B s (B s)
theorem bvl_cg {n : Nat} {v : Nat → Nat → Nat} {B B' : Nat → Nat} {s f i : Nat} (hf : low s f) (h : ∀ t, t < s → B t = B' t) : bvl n v B s f i = bvl n v B' s f i := by
  have h1 := clr_lt hf.1
  have h2 := clr_le (clr s f) i
  unfold bvl
  rw [h _ h1, h _ (Nat.lt_of_le_of_lt h2 h1)]
theorem isB_cg {n : Nat} {v : Nat → Nat → Nat} {B B' : Nat → Nat} {s M : Nat} (h : ∀ t, t < s → B t = B' t) (hb : isB n v B s M) : isB n v B' s M := by
  obtain ⟨f, hf, h1, i, hi, h2⟩ := hb
  exact ⟨f, hf, fun j hj => by rw [← bvl_cg hf h]; exact h1 j hj, i, hi, by rw [← bvl_cg hf h]; exact h2⟩
theorem isB_uniq {n : Nat} {v : Nat → Nat → Nat} {B : Nat → Nat} {s M M' : Nat} (h : isB n v B s M) (h' : isB n v B s M') : M = M' := by
  obtain ⟨f, hf, h1, i, hi, h2⟩ := h
  obtain ⟨f', hf', h1', i', hi', h2'⟩ := h'
  have e := low_uniq hf hf'
  subst e
  have a := h1 _ hi'
  have b := h1' _ hi
  omega
theorem Tb_uniq {n : Nat} {v : Nat → Nat → Nat} {B B' : Nat → Nat} {k : Nat} (h : Tb n v B k) (h' : Tb n v B' k) : ∀ s, s < k → B s = B' s := by
  intro s
  induction s using Nat.strongRecOn with
  | _ s ih =>
    intro hs
    rcases Nat.eq_zero_or_pos s with c | c
    · subst c
      exact h.1.trans h'.1.symm
    · have a := isB_cg (B' := B') (fun t ht => ih t ht (by omega)) (h.2 s c hs)
      exact isB_uniq a (h'.2 s c hs)
theorem Tb_cg {n : Nat} {v : Nat → Nat → Nat} {B B' : Nat → Nat} {k : Nat} (h : Tb n v B k) (hk : 0 < k) (e : ∀ t, t < k → B t = B' t) : Tb n v B' k :=
  ⟨(e 0 hk).symm.trans h.1, fun s h0 hs => by rw [← e s hs]; exact isB_cg (fun t ht => e t (by omega)) (h.2 s h0 hs)⟩
/-- the first with whom most comes out -/
def LW (n : Nat) (v : Nat → Nat → Nat) (B : Nat → Nat) (s w : Nat) : Prop := ∃ f, low s f ∧ adm n s f w ∧ bvl n v B s f w = B s ∧ ∀ i, i < w → adm n s f i → bvl n v B s f i ≠ B s
theorem LW_cg {n : Nat} {v : Nat → Nat → Nat} {B B' : Nat → Nat} {s w : Nat} (h : ∀ t, t ≤ s → B t = B' t) (hb : LW n v B s w) : LW n v B' s w := by
  obtain ⟨f, hf, h1, h2, h3⟩ := hb
  have e : ∀ i, bvl n v B s f i = bvl n v B' s f i := fun i => bvl_cg hf (fun t ht => h t (by omega))
  refine ⟨f, hf, h1, ?_, fun i hi ha => ?_⟩
  · rw [← e, ← h s (Nat.le_refl _)]
    exact h2
  · rw [← e, ← h s (Nat.le_refl _)]
    exact h3 i hi ha
theorem LW_uniq {n : Nat} {v : Nat → Nat → Nat} {B : Nat → Nat} {s w w' : Nat} (h : LW n v B s w) (h' : LW n v B s w') : w = w' := by
  obtain ⟨f, hf, h1, h2, h3⟩ := h
  obtain ⟨f', hf', h1', h2', h3'⟩ := h'
  have e := low_uniq hf hf'
  subst e
  rcases Nat.lt_trichotomy w w' with c | c | c
  · exact absurd h2 (h3' _ c h1)
  · exact c
  · exact absurd h2' (h3 _ c h1')
def bnx (n s f w : Nat) : Nat := if w = n then clr s f else clr (clr s f) w
/-- whom p sits beside in the set s: q, n for nobody -/
def Pt (n : Nat) (v : Nat → Nat → Nat) (B : Nat → Nat) : Nat → Nat → Nat → Nat → Prop
  | 0, _, _, _ => False
  | k + 1, s, p, q => ∃ f w, low s f ∧ LW n v B s w ∧ ((p = f ∧ q = w) ∨ (w < n ∧ p = w ∧ q = f) ∨ (p ≠ f ∧ p ≠ w ∧ Pt n v B k (bnx n s f w) p q))
def Prt (n : Nat) (v : Nat → Nat → Nat) (B : Nat → Nat) (s p q : Nat) : Prop := ∃ k, Pt n v B k s p q
theorem Pt_uniq {n : Nat} {v : Nat → Nat → Nat} {B : Nat → Nat} : ∀ k k' s p q q', Pt n v B k s p q → Pt n v B k' s p q' → q = q'
  | 0, _, _, _, _, _, h, _ => h.elim
  | _ + 1, 0, _, _, _, _, _, h => h.elim
  | k + 1, k' + 1, s, p, q, q', h, h' => by
    obtain ⟨f, w, hf, hw, h⟩ := h
    obtain ⟨f', w', hf', hw', h'⟩ := h'
    have e := low_uniq hf hf'
    subst e
    have e := LW_uniq hw hw'
    subst e
    have hfw : f < w := by
      obtain ⟨f2, hf2, ha, -⟩ := hw
      have e := low_uniq hf hf2
      subst e
      exact ha.1
    rcases h with ⟨a, b⟩ | ⟨a0, a, b⟩ | ⟨a, b, c⟩ <;> rcases h' with ⟨a', b'⟩ | ⟨a0', a', b'⟩ | ⟨a', b', c'⟩
    · omega
    · omega
    · omega
    · omega
    · omega
    · omega
    · omega
    · omega
    · exact Pt_uniq k k' _ _ _ _ c c'
theorem Prt_uniq {n : Nat} {v : Nat → Nat → Nat} {B : Nat → Nat} {s p q q' : Nat} (h : Prt n v B s p q) (h' : Prt n v B s p q') : q = q' := by
  obtain ⟨k, h⟩ := h
  obtain ⟨k', h'⟩ := h'
  exact Pt_uniq k k' _ _ _ _ h h'
theorem Prt_here {n : Nat} {v : Nat → Nat → Nat} {B : Nat → Nat} {s f w : Nat} (hf : low s f) (hw : LW n v B s w) : Prt n v B s f w := ⟨1, f, w, hf, hw, Or.inl ⟨rfl, rfl⟩⟩
theorem Prt_there {n : Nat} {v : Nat → Nat → Nat} {B : Nat → Nat} {s f w : Nat} (hf : low s f) (hw : LW n v B s w) (h : w < n) : Prt n v B s w f := ⟨1, f, w, hf, hw, Or.inr (Or.inl ⟨h, rfl, rfl⟩)⟩
theorem Prt_skip {n : Nat} {v : Nat → Nat → Nat} {B : Nat → Nat} {s f w p q : Nat} (hf : low s f) (hw : LW n v B s w) (h1 : p ≠ f) (h2 : p ≠ w) (h : Prt n v B (bnx n s f w) p q) : Prt n v B s p q := by
  obtain ⟨k, h⟩ := h
  exact ⟨k + 1, f, w, hf, hw, Or.inr (Or.inr ⟨h1, h2, h⟩)⟩
theorem Pt_cg {n : Nat} {v : Nat → Nat → Nat} {B B' : Nat → Nat} : ∀ k s p q, (∀ t, t ≤ s → B t = B' t) → Pt n v B k s p q → Pt n v B' k s p q
  | 0, _, _, _, _, h => h.elim
  | k + 1, s, p, q, e, h => by
    obtain ⟨f, w, hf, hw, h⟩ := h
    refine ⟨f, w, hf, LW_cg e hw, ?_⟩
    rcases h with a | a | ⟨a, b, c⟩
    · exact Or.inl a
    · exact Or.inr (Or.inl a)
    · refine Or.inr (Or.inr ⟨a, b, Pt_cg k _ _ _ (fun t ht => e t ?_) c⟩)
      unfold bnx at ht
      have h1 := clr_le s f
      have h2 := clr_le (clr s f) w
      split at ht <;> omega
theorem Prt_cg {n : Nat} {v : Nat → Nat → Nat} {B B' : Nat → Nat} {s p q : Nat} (e : ∀ t, t ≤ s → B t = B' t) (h : Prt n v B s p q) : Prt n v B' s p q := by
  obtain ⟨k, h⟩ := h
  exact ⟨k, Pt_cg k _ _ _ e h⟩
theorem bnx_lt {n s f w : Nat} (hf : low s f) : bnx n s f w < s := by
  have h1 := clr_lt hf.1
  have h2 := clr_le (clr s f) w
  unfold bnx
  split <;> omega
theorem bnx_tb {n s f w j : Nat} (hs : s < 2 ^ n) : (bnx n s f w).testBit j = (s.testBit j && decide (f ≠ j) && decide (w ≠ j)) := by
  unfold bnx
  split
  · rename_i e
    subst e
    rw [bclr_tb]
    by_cases c : w = j
    · subst c
      rw [Nat.testBit_lt_two_pow hs]
      simp
    · simp [c]
  · rw [bclr_tb, bclr_tb]
theorem sub1_clr {s f : Nat} (h : low s f) : s &&& (s - 1) = clr s f := by
  have e : s % 2 ^ (f + 1) = 2 ^ f := by
    apply Nat.eq_of_testBit_eq
    intro j
    rw [Nat.testBit_mod_two_pow, Nat.testBit_two_pow]
    by_cases c : j = f
    · subst c
      simp [h.1]
    · by_cases d : j < f
      · rw [h.2 j d]
        simp; omega
      · have d2 : ¬ j < f + 1 := by omega
        simp [d2]; omega
  have e2 : s = 2 ^ (f + 1) * (s / 2 ^ (f + 1)) + 2 ^ f := by
    have := Nat.div_add_mod s (2 ^ (f + 1))
    omega
  have hp : 0 < 2 ^ f := Nat.two_pow_pos f
  have hp2 : 2 ^ (f + 1) = 2 ^ f * 2 := Nat.pow_succ 2 f
  generalize s / 2 ^ (f + 1) = a at e2
  have e3 : s - 1 = 2 ^ (f + 1) * a + (2 ^ f - 1) := by omega
  apply Nat.eq_of_testBit_eq
  intro j
  rw [Nat.testBit_and, bclr_tb, e3]
  by_cases c : j < f + 1
  · by_cases d : j < f
    · rw [h.2 j d]; rfl
    · have : j = f := by omega
      subst this
      rw [Nat.testBit_two_pow_mul_add _ (by omega), if_pos c, Nat.testBit_two_pow_sub_one]
      simp
  · have hne : f ≠ j := by omega
    have q : s.testBit j = a.testBit (j - (f + 1)) := by
      rw [e2, Nat.testBit_two_pow_mul_add _ (by omega), if_neg c]
    rw [q, Nat.testBit_two_pow_mul_add _ (by omega), if_neg c]
    simp [hne]
end
