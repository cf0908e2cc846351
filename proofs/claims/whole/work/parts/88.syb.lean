/-! A teacher who is ill (reference): who is lost, and how they are spread. -/
noncomputable section
theorem tb_dm (m k : Nat) : m / 2 ^ k % 2 = if m.testBit k = true then 1 else 0 := by
  rw [Nat.testBit_eq_decide_div_mod_eq]
  have := Nat.mod_lt (m / 2 ^ k) (show 0 < 2 by decide)
  by_cases h : m / 2 ^ k % 2 = 1
  · simp [h]
  · simp [h]; omega
theorem pop_bcn (m : Nat) : pop m = bcn m 17 := by
  have : ∀ t, fo (fun k x => x + m / 2 ^ k % 2) t 0 0 = bcn m t := by
    intro t
    induction t with
    | zero => rfl
    | succ t ih => rw [fo_last, ih, Nat.zero_add, tb_dm]; rfl
  exact this 17
theorem bcn_top {m n : Nat} (h : m < 2 ^ n) : ∀ t, n ≤ t → bcn m t = bcn m n := by
  intro t
  induction t with
  | zero => intro ht; rw [show n = 0 by omega]
  | succ t ih =>
    intro ht
    by_cases e : n = t + 1
    · rw [e]
    · rw [bcn_s0 (fun hb => by have := tb_lt h hb; omega)]
      exact ih (by omega)
theorem bcn_surj {m k : Nat} : ∀ t, k < bcn m t → ∃ l, l < t ∧ m.testBit l = true ∧ bcn m l = k := by
  intro t
  induction t with
  | zero => intro h; exact absurd h (Nat.not_lt_zero _)
  | succ t ih =>
    intro h
    by_cases b : m.testBit t = true
    · rw [bcn_s1 b] at h
      by_cases c : k < bcn m t
      · obtain ⟨l, h1, h2⟩ := ih c
        exact ⟨l, by omega, h2⟩
      · exact ⟨t, by omega, b, by omega⟩
    · rw [bcn_s0 b] at h
      obtain ⟨l, h1, h2⟩ := ih h
      exact ⟨l, by omega, h2⟩
theorem bcn_sub {p q : Nat} (h : ∀ j, p.testBit j = true → q.testBit j = true) : ∀ t, bcn p t ≤ bcn q t := by
  intro t
  induction t with
  | zero => exact Nat.le_refl _
  | succ t ih =>
    by_cases b : p.testBit t = true
    · rw [bcn_s1 b, bcn_s1 (h t b)]
      omega
    · rw [bcn_s0 b]
      have := @bcn_le q t (t + 1) (by omega)
      omega
theorem pop_add {m l : Nat} (hl : l < 16) (h : m.testBit l = false) : pop (m ||| 2 ^ l) = pop m + 1 := by
  rw [pop_set hl]
  have : m ^^^ (m &&& 2 ^ l) = m := by
    refine Nat.eq_of_testBit_eq (fun j => ?_)
    rw [Nat.testBit_xor, Nat.testBit_and, Nat.testBit_two_pow]
    by_cases e : l = j
    · subst e; simp [h]
    · simp [e]
  rw [this]
/-- who sits in class k -/
def sN (P : Pln) (k : Nat) : Nat := (P.2 k 5).toNatClampNeg
theorem sN_eq {S : Sch} {P : Pln} (hn : S.1 ≤ 16) (hgo : goP S P) {k : Nat} (hk : k < P.1) : P.2 k 5 = nI (sN P k) ∧ sN P k < 2 ^ S.1 := by
  have hp : 2 ^ S.1 ≤ 2 ^ 16 := Nat.pow_le_pow_right (by decide) hn
  obtain ⟨w, h1, h2⟩ := (hgo k hk).2
  unfold sN
  rw [h2, nI_clamp (by omega)]
  exact ⟨rfl, h1⟩
def hisP (P : Pln) (tc : Int32) (n l : Nat) : Prop := ∃ k, k < n ∧ (sN P k).testBit l = true ∧ P.2 k 1 = tc
def othP (P : Pln) (tc : Int32) (n l : Nat) : Prop := ∃ k, k < n ∧ (sN P k).testBit l = true ∧ ¬ P.2 k 1 = tc
/-- who is lost -/
def lst (S : Sch) (P : Pln) (tc : Int32) : Nat := sfl (fun l => @decide (hisP P tc P.1 l ∧ ¬ othP P tc P.1 l) (Classical.propDecidable _)) S.1
theorem lst_tb {S : Sch} {P : Pln} {tc : Int32} {j : Nat} : (lst S P tc).testBit j = true ↔ j < S.1 ∧ hisP P tc P.1 j ∧ ¬ othP P tc P.1 j := by
  unfold lst
  rw [sfl_tb]
  simp
theorem lst_lt {S : Sch} {P : Pln} {tc : Int32} : lst S P tc < 2 ^ S.1 := sfl_lt _ _
theorem loses_in {S : Sch} {P : Pln} {tc : Int32} {g vl : Nat → Int32} {k k' : Nat} {zz : (Nat → Int32) × (Nat → Int32)} {z : Int32 × Int32} (h1 : z.1 = 0 ∨ z.1 = 1) (h2 : z.2 = 0 ∨ z.2 = 1) {b : Prop} (hb : (((P.2 k' 5) >>> ((nI k) &&& 31)) &&& (1 : Int32)) = (1 : Int32) ↔ b) : (((b ∧ P.2 k' 1 = tc) → (F_m_loses_28 S P tc g vl k zz k' z).1 = 1) ∧ (¬ (b ∧ P.2 k' 1 = tc) → (F_m_loses_28 S P tc g vl k zz k' z).1 = z.1)) ∧ ((b ∧ ¬ P.2 k' 1 = tc) → (F_m_loses_28 S P tc g vl k zz k' z).2 = 1) ∧ (¬ (b ∧ ¬ P.2 k' 1 = tc) → (F_m_loses_28 S P tc g vl k zz k' z).2 = z.2) := by
  unfold F_m_loses_28
  by_cases c : b
  · rw [if_pos (hb.mpr c)]
    by_cases e : P.2 k' 1 = tc
    · rcases h1 with h1 | h1 <;> rcases h2 with h2 | h2 <;> simp [h1, h2, c, e]
    · rcases h1 with h1 | h1 <;> rcases h2 with h2 | h2 <;> simp [h1, h2, c, e]
  · rw [if_neg (fun h => c (hb.mp h))]
    rcases h1 with h1 | h1 <;> rcases h2 with h2 | h2 <;> simp [h1, h2, c]
theorem bit1 {m j : Nat} (hm : m < 2 ^ 31) (hj : j < 32) : (((nI m) >>> ((nI j) &&& 31)) &&& (1 : Int32)) = (1 : Int32) ↔ m.testBit j = true := by
  have h : K_bit (nI m) (nI j) = if m.testBit j = true then 1 else 0 := bit_tb hm hj
  unfold K_bit at h
  rw [h]
  cases m.testBit j <;> simp
theorem loses_run {S : Sch} {P : Pln} {tc : Int32} {g vl : Nat → Int32} {k : Nat} {zz : (Nat → Int32) × (Nat → Int32)} (hn : S.1 ≤ 16) (hgo : goP S P) (hk : k < S.1) : (((fo (F_m_loses_28 S P tc g vl k zz) P.1 0 ((0 : Int32), (0 : Int32))).1 = 0 ∧ ¬ hisP P tc P.1 k) ∨ ((fo (F_m_loses_28 S P tc g vl k zz) P.1 0 ((0 : Int32), (0 : Int32))).1 = 1 ∧ hisP P tc P.1 k)) ∧ (((fo (F_m_loses_28 S P tc g vl k zz) P.1 0 ((0 : Int32), (0 : Int32))).2 = 0 ∧ ¬ othP P tc P.1 k) ∨ ((fo (F_m_loses_28 S P tc g vl k zz) P.1 0 ((0 : Int32), (0 : Int32))).2 = 1 ∧ othP P tc P.1 k)) := by
  have hp : 2 ^ S.1 ≤ 2 ^ 16 := Nat.pow_le_pow_right (by decide) hn
  have h := fo_inv (F := F_m_loses_28 S P tc g vl k zz) (fun i z => ((z.1 = 0 ∧ ¬ hisP P tc i k) ∨ (z.1 = 1 ∧ hisP P tc i k)) ∧ ((z.2 = 0 ∧ ¬ othP P tc i k) ∨ (z.2 = 1 ∧ othP P tc i k))) P.1 0 ((0 : Int32), (0 : Int32)) ⟨Or.inl ⟨rfl, fun ⟨q, h, _⟩ => absurd h (Nat.not_lt_zero _)⟩, Or.inl ⟨rfl, fun ⟨q, h, _⟩ => absurd h (Nat.not_lt_zero _)⟩⟩ (fun j z _ hj hz => by
    obtain ⟨z1, z2⟩ := hz
    obtain ⟨s1, s2⟩ := sN_eq hn hgo (k := j) (by omega)
    obtain ⟨⟨a1, a2⟩, b1, b2⟩ := loses_in (S := S) (g := g) (vl := vl) (zz := zz) (tc := tc) (k := k) (k' := j) (z1.elim (fun h => Or.inl h.1) (fun h => Or.inr h.1)) (z2.elim (fun h => Or.inl h.1) (fun h => Or.inr h.1)) (b := (sN P j).testBit k = true) (by rw [s1]; exact bit1 (by omega) (by omega))
    constructor
    · by_cases c : (sN P j).testBit k = true ∧ P.2 j 1 = tc
      · exact Or.inr ⟨a1 c, j, by omega, c⟩
      · rw [a2 c]
        rcases z1 with ⟨u, v⟩ | ⟨u, q, v1, v2⟩
        · refine Or.inl ⟨u, ?_⟩
          rintro ⟨q, w1, w2⟩
          by_cases e : q = j
          · subst e; exact c w2
          · exact v ⟨q, by omega, w2⟩
        · exact Or.inr ⟨u, q, by omega, v2⟩
    · by_cases c : (sN P j).testBit k = true ∧ ¬ P.2 j 1 = tc
      · exact Or.inr ⟨b1 c, j, by omega, c⟩
      · rw [b2 c]
        rcases z2 with ⟨u, v⟩ | ⟨u, q, v1, v2⟩
        · refine Or.inl ⟨u, ?_⟩
          rintro ⟨q, w1, w2⟩
          by_cases e : q = j
          · subst e; exact c w2
          · exact v ⟨q, by omega, w2⟩
        · exact Or.inr ⟨u, q, by omega, v2⟩)
  rw [Nat.zero_add] at h
  exact h
theorem loses_sem {S : Sch} {P : Pln} {tc : Int32} {g vl : Nat → Int32} (hn : S.1 ≤ 16) (hgo : goP S P) : (K_m_loses S P tc g vl).1 21 = nI (bcn (lst S P tc) S.1) ∧ ∀ l, l < S.1 → (lst S P tc).testBit l = true → (K_m_loses S P tc g vl).2 (bcn (lst S P tc) l) = nI l := by
  have h := fo_inv (F := F_m_loses_8 S P tc g vl) (fun i z => i ≤ S.1 → z.1 21 = nI (bcn (lst S P tc) i) ∧ bcn (lst S P tc) i ≤ i ∧ ∀ l, l < i → (lst S P tc).testBit l = true → z.2 (bcn (lst S P tc) l) = nI l) S.1 0 ((upd g 21 (0 : Int32)), vl) (fun _ => ⟨(show upd g 21 (0 : Int32) 21 = nI 0 from pk_us), Nat.le_refl _, fun l h => by omega⟩) (fun j z _ hj hz hle => by
    have hj : j < S.1 := by omega
    obtain ⟨z1, z0, z2⟩ := hz (by omega)
    have hr := loses_run (S := S) (P := P) (tc := tc) (g := g) (vl := vl) (zz := z) (k := j) hn hgo hj
    have hsame : ¬ (lst S P tc).testBit j = true → z.1 21 = nI (bcn (lst S P tc) (j + 1)) ∧ bcn (lst S P tc) (j + 1) ≤ j + 1 ∧ ∀ l, l < j + 1 → (lst S P tc).testBit l = true → z.2 (bcn (lst S P tc) l) = nI l := by
      intro c
      rw [bcn_s0 c]
      refine ⟨z1, by omega, fun l hl hb => ?_⟩
      by_cases e : l = j
      · subst e; exact absurd hb c
      · exact z2 l (by omega) hb
    unfold F_m_loses_8
    rcases hr with ⟨⟨u, v⟩ | ⟨u, v⟩, ⟨u', v'⟩ | ⟨u', v'⟩⟩
    · rw [if_pos u]
      exact hsame (fun c => v (lst_tb.mp c).2.1)
    · rw [if_pos u]
      exact hsame (fun c => v (lst_tb.mp c).2.1)
    · rw [if_neg (by rw [u]; decide), if_pos u']
      have hb : (lst S P tc).testBit j = true := lst_tb.mpr ⟨hj, v, v'⟩
      have e1 : (z.1 21).toNatClampNeg = bcn (lst S P tc) j := by rw [z1, nI_clamp (by omega)]
      rw [bcn_s1 hb]
      refine ⟨?_, by omega, fun l hl hbl => ?_⟩
      · show upd z.1 21 (z.1 21 + 1) 21 = _
        rw [pk_us, z1, nI_1]
      · show upd z.2 (z.1 21).toNatClampNeg (nI j) (bcn (lst S P tc) l) = _
        rw [e1]
        by_cases e : l = j
        · subst e; exact pk_us
        · have h1 := @bcn_le (lst S P tc) (l + 1) j (by omega)
          rw [bcn_s1 hbl] at h1
          rw [pk_un (by omega)]
          exact z2 l (by omega) hbl
    · rw [if_neg (by rw [u]; decide), if_neg (by rw [u']; decide)]
      exact hsame (fun c => (lst_tb.mp c).2.2 v'))
  rw [Nat.zero_add] at h
  obtain ⟨h1, -, h2⟩ := h (Nat.le_refl _)
  exact ⟨h1, h2⟩
end
