/-! What a row of classes lays out (reference), and when it is right. -/
noncomputable section
theorem ptF {a : Nat → Nat} {k L j : Nat} : (pt a (2 ^ L - 1) k L).testBit j = true ↔ j < L ∧ a j = k := by
  unfold pt
  rw [sfl_tb, Nat.testBit_two_pow_sub_one]
  by_cases h : j < L
  · simp [h]
  · simp [h]
theorem pt_lt {a : Nat → Nat} {s k L : Nat} : pt a s k L < 2 ^ L := sfl_lt _ _
theorem ptF_eq {a : Nat → Nat} {k L m : Nat} (h : ∀ j, m.testBit j = true ↔ (j < L ∧ a j = k)) : m = pt a (2 ^ L - 1) k L := by
  refine Nat.eq_of_testBit_eq (fun j => ?_)
  have h1 := h j
  have h2 := @ptF a k L j
  cases h3 : m.testBit j <;> cases h4 : (pt a (2 ^ L - 1) k L).testBit j
  · rfl
  · exact absurd (h1.mpr (h2.mp h4)) (by rw [h3]; decide)
  · exact absurd (h2.mpr (h1.mp h3)) (by rw [h4]; decide)
  · rfl
theorem lays_sem {r0 L n : Nat} {g vt vr : Nat → Int32} (hL : L ≤ 16) (hn : n ≤ 6) (hr0 : r0 < 2 ^ 31) :
    (∀ l, l < L → (K_m_lays r0 L n g vt vr).2 l = nI (dg n L r0 l)) ∧ ∀ k, k < n → (K_m_lays r0 L n g vt vr).1 k = nI (pt (dg n L r0) (2 ^ L - 1) k L) := by
  have h6 : ∀ k, k < n → fo (F_m_lays_6 r0 L n g vt vr) n 0 vt k = 0 := by
    have := fo_inv (F := F_m_lays_6 r0 L n g vt vr) (fun i z => ∀ k, k < i → z k = 0) n 0 vt (fun k h => by omega) (fun j z _ _ hz k hk => by
      show upd z j 0 k = 0
      by_cases e : k = j
      · subst e; exact pk_us
      · rw [pk_un e]
        exact hz k (by omega))
    intro k hk
    exact this k (by omega)
  have hp : 2 ^ L ≤ 2 ^ 16 := Nat.pow_le_pow_right (by decide) hL
  have key := fo_inv (F := F_m_lays_31 r0 L n g vt vr) (fun c z => z.1 = r0 / (n + 1) ^ c ∧ (∀ l, L - c ≤ l → l < L → z.2.2 l = nI (dg n L r0 l)) ∧ ∀ k, k < n → ∃ m, m < 2 ^ L ∧ z.2.1 k = nI m ∧ ∀ j, m.testBit j = true ↔ (L - c ≤ j ∧ j < L ∧ dg n L r0 j = k)) L 0 (r0, fo (F_m_lays_6 r0 L n g vt vr) n 0 vt, vr)
    ⟨by rw [Nat.pow_zero, Nat.div_one], fun l h1 h2 => by omega, fun k hk => ⟨0, Nat.two_pow_pos _, h6 k hk, fun j => by rw [Nat.zero_testBit]; constructor <;> intro h; cases h; omega⟩⟩
    (fun c z _ hc hz => by
      obtain ⟨z1, z2, z3⟩ := hz
      have hc : c < L := by omega
      have hd : z.1 % (n + 1) = dg n L r0 (L - 1 - c) := by
        rw [z1]
        unfold dg
        rw [show L - 1 - (L - 1 - c) = c by omega]
      have hdl := @dg_le n L r0 (L - 1 - c)
      have hdiv : z.1 / (n + 1) = r0 / (n + 1) ^ (c + 1) := by
        rw [z1, Nat.pow_succ, Nat.div_div_eq_div_mul]
      have hrow : ∀ l, L - (c + 1) ≤ l → l < L → upd z.2.2 (L - 1 - c) (nI (z.1 % (n + 1))) l = nI (dg n L r0 l) := by
        intro l h1 h2
        by_cases e : l = L - 1 - c
        · rw [e, pk_us, hd]
        · rw [pk_un e]
          exact z2 l (by omega) h2
      unfold F_m_lays_31
      have hcc : nI (z.1 % (n + 1)) < nI n ↔ z.1 % (n + 1) < n := nI_lt_iff (by rw [hd]; omega) (by omega)
      by_cases cc : z.1 % (n + 1) < n
      · rw [if_pos (hcc.mpr cc)]
        refine ⟨hdiv, hrow, fun k hk => ?_⟩
        obtain ⟨m, m1, m2, m3⟩ := z3 k hk
        by_cases e : z.1 % (n + 1) = k
        · refine ⟨m ||| 2 ^ (L - 1 - c), Nat.or_lt_two_pow m1 (Nat.pow_lt_pow_right (by decide) (by omega)), ?_, fun j => ?_⟩
          · show upd z.2.1 (z.1 % (n + 1)) _ k = _
            rw [e, pk_us, m2, or_bit (by omega) (by omega)]
          · rw [Nat.testBit_or, Nat.testBit_two_pow]
            by_cases f : j = L - 1 - c
            · subst f
              simp
              exact ⟨by omega, by omega, by rw [← hd]; exact e⟩
            · have f2 : decide (L - 1 - c = j) = false := by simp; omega
              rw [f2, Bool.or_false, m3]
              constructor
              · rintro ⟨a, b⟩; exact ⟨by omega, b⟩
              · rintro ⟨a, b⟩; exact ⟨by omega, b⟩
        · refine ⟨m, m1, ?_, fun j => ?_⟩
          · show upd z.2.1 (z.1 % (n + 1)) _ k = _
            rw [pk_un (fun h => e h.symm), m2]
          · rw [m3]
            constructor
            · rintro ⟨a, b⟩; exact ⟨by omega, b⟩
            · rintro ⟨a, b, d⟩
              refine ⟨?_, b, d⟩
              refine Classical.byContradiction (fun w => e ?_)
              rw [hd, ← d, show L - 1 - c = j by omega]
      · rw [if_neg (fun h => cc (hcc.mp h))]
        refine ⟨hdiv, hrow, fun k hk => ?_⟩
        obtain ⟨m, m1, m2, m3⟩ := z3 k hk
        refine ⟨m, m1, m2, fun j => ?_⟩
        rw [m3]
        constructor
        · rintro ⟨a, b⟩; exact ⟨by omega, b⟩
        · rintro ⟨a, b, d⟩
          refine ⟨?_, b, d⟩
          refine Classical.byContradiction (fun w => ?_)
          have : dg n L r0 (L - 1 - c) = k := by rw [← d, show L - 1 - c = j by omega]
          omega)
  rw [Nat.zero_add] at key
  obtain ⟨-, k2, k3⟩ := key
  refine ⟨fun l hl => k2 l (by omega) hl, fun k hk => ?_⟩
  obtain ⟨m, m1, m2, m3⟩ := k3 k hk
  have e : m = pt (dg n L r0) (2 ^ L - 1) k L := ptF_eq (fun j => (m3 j).trans ⟨fun h => h.2, fun h => ⟨by omega, h⟩⟩)
  rw [← e]
  exact m2
/-- these may sit together in the class -/
def okS (S : Sch) (C : Les) (p : Nat) : Prop := (K_bc (nI p) = 0 ∨ (¬ K_bc (nI p) < S.2.2 9 2 ∧ ¬ S.2.2 9 3 < K_bc (nI p))) ∧ ∀ l, l < S.1 → p.testBit l = true → ¬ K_can S C (nI l) = 0 ∧ (S.2.2 3 l = -1 ∨ ∃ q, q < S.1 ∧ S.2.2 3 l = nI q ∧ p.testBit q = true)
theorem fe_unit {F : Nat → Unit → Unit ⊕ Int32} {bad : Nat → Prop} {N : Nat} (hF : ∀ k, k < N → (bad k → F k () = .inr 0) ∧ (¬ bad k → F k () = .inl ())) : ∀ n i, i + n = N → ((∀ k, i ≤ k → k < N → ¬ bad k) ∧ fe F n i () = .inl ()) ∨ ((∃ k, i ≤ k ∧ k < N ∧ bad k) ∧ fe F n i () = .inr 0) := by
  intro n
  induction n with
  | zero => intro i h; exact Or.inl ⟨fun k h1 h2 => by omega, rfl⟩
  | succ n ih =>
    intro i h
    rw [fe_succ]
    by_cases b : bad i
    · rw [(hF i (by omega)).1 b, Sum.elim_inr]
      exact Or.inr ⟨⟨i, Nat.le_refl _, by omega, b⟩, rfl⟩
    · rw [(hF i (by omega)).2 b, Sum.elim_inl]
      rcases ih (i + 1) (by omega) with ⟨h1, h2⟩ | ⟨⟨k, h1, h2, h3⟩, h4⟩
      · refine Or.inl ⟨fun k a c => ?_, h2⟩
        by_cases e : k = i
        · subst e; exact b
        · exact h1 k (by omega) c
      · exact Or.inr ⟨⟨k, by omega, h2, h3⟩, h4⟩
theorem bit0 {m j : Nat} (hm : m < 2 ^ 31) (hj : j < 32) : (((nI m) >>> ((nI j) &&& 31)) &&& (1 : Int32)) = (0 : Int32) ↔ m.testBit j = false := by
  have h : K_bit (nI m) (nI j) = if m.testBit j = true then 1 else 0 := bit_tb hm hj
  unfold K_bit at h
  rw [h]
  cases m.testBit j <;> simp
theorem maySit_iff {S : Sch} {C : Les} (hw : wS S) {p : Nat} (hp : p < 2 ^ S.1) : (K_maySit S C (nI p) = 0 ↔ ¬ okS S C p) := by
  have h16 := hw.1
  have hpp : 2 ^ S.1 ≤ 2 ^ 16 := Nat.pow_le_pow_right (by decide) h16
  have hF := fe_unit (F := F_maySit_34 S C (nI p)) (bad := fun k => p.testBit k = true ∧ (K_can S C (nI k) = 0 ∨ ¬ (S.2.2 3 k = -1 ∨ ∃ q, q < S.1 ∧ S.2.2 3 k = nI q ∧ p.testBit q = true))) (N := S.1) (fun k hk => by
    have hb := bit0 (m := p) (j := k) (by omega) (by omega)
    unfold F_maySit_34
    rcases (hw.2.2.1 k hk).2.2.2.1 with e | ⟨q, q1, -, e, -⟩
    · have en : ((S.2.2 3) k) = (-1 : Int32) := e
      rw [if_pos en]
      by_cases b : p.testBit k = true
      · rw [if_neg (fun h => by rw [hb.mp h] at b; cases b)]
        by_cases c : K_can S C (nI k) = 0
        · rw [if_pos c]
          exact ⟨fun _ => rfl, fun h => absurd ⟨b, Or.inl c⟩ h⟩
        · rw [if_neg c]
          exact ⟨fun h => (h.2.resolve_left c (Or.inl en)).elim, fun _ => rfl⟩
      · rw [if_pos (hb.mpr (by simpa using b))]
        exact ⟨fun h => absurd h.1 b, fun _ => rfl⟩
    · have en : ¬ ((S.2.2 3) k) = (-1 : Int32) := by rw [e]; exact nI_ne_neg1 (by omega)
      have hq : ((nI p) >>> (((S.2.2 3) k) &&& 31)) &&& (1 : Int32) = (0 : Int32) ↔ p.testBit q = false := by rw [e]; exact bit0 (by omega) (by omega)
      have hex : (S.2.2 3 k = -1 ∨ ∃ q, q < S.1 ∧ S.2.2 3 k = nI q ∧ p.testBit q = true) ↔ p.testBit q = true := by
        constructor
        · rintro (h | ⟨q', a, b, d⟩)
          · exact absurd h en
          · rw [e] at b
            rw [nI_injL (by omega) (by omega) b]
            exact d
        · intro h
          exact Or.inr ⟨q, q1, e, h⟩
      rw [if_neg en, hex]
      by_cases b2 : p.testBit q = true
      · rw [if_neg (fun h => by rw [hq.mp h] at b2; cases b2)]
        by_cases b : p.testBit k = true
        · rw [if_neg (fun h => by rw [hb.mp h] at b; cases b)]
          by_cases c : K_can S C (nI k) = 0
          · rw [if_pos c]
            exact ⟨fun _ => rfl, fun h => absurd ⟨b, Or.inl c⟩ h⟩
          · rw [if_neg c]
            exact ⟨fun h => (h.2.resolve_left c b2).elim, fun _ => rfl⟩
        · rw [if_pos (hb.mpr (by simpa using b))]
          exact ⟨fun h => absurd h.1 b, fun _ => rfl⟩
      · rw [if_pos (hq.mpr (by simpa using b2))]
        by_cases b : p.testBit k = true
        · rw [if_neg (fun h => by rw [hb.mp h] at b; cases b)]
          exact ⟨fun _ => rfl, fun h => absurd ⟨b, Or.inr b2⟩ h⟩
        · rw [if_pos (hb.mpr (by simpa using b))]
          exact ⟨fun h => absurd h.1 b, fun _ => rfl⟩) S.1 0 (by omega)
  have hall : (Sum.elim (fun (_ : Unit) => (1 : Int32)) (fun (rx : Int32) => rx) (fe (F_maySit_34 S C (nI p)) S.1 0 ()) = 0) ↔ ¬ ∀ l, l < S.1 → p.testBit l = true → ¬ K_can S C (nI l) = 0 ∧ (S.2.2 3 l = -1 ∨ ∃ q, q < S.1 ∧ S.2.2 3 l = nI q ∧ p.testBit q = true) := by
    rcases hF with ⟨h1, h2⟩ | ⟨⟨k, -, h1, h2, h3⟩, h4⟩
    · rw [h2, Sum.elim_inl]
      constructor
      · intro h; exact absurd h (by decide)
      · intro h
        refine absurd (fun l hl hb => ?_) h
        have := h1 l (by omega) hl
        constructor
        · intro c; exact this ⟨hb, Or.inl c⟩
        · exact Classical.byContradiction (fun c => this ⟨hb, Or.inr c⟩)
    · rw [h4, Sum.elim_inr]
      constructor
      · intro _ h
        have := h k h1 h2
        rcases h3 with c | c
        · exact this.1 c
        · exact c this.2
      · intro _; rfl
  unfold K_maySit okS
  by_cases c0 : K_bc (nI p) = 0
  · rw [if_pos c0, hall]
    simp [c0]
  · rw [if_neg c0]
    by_cases c1 : K_bc (nI p) < S.2.2 9 2
    · have c1' : K_bc (nI p) < ((S.2.2 9) 2) := c1
      rw [if_pos c1']
      simp [c0, c1]
    · have c1' : ¬ K_bc (nI p) < ((S.2.2 9) 2) := c1
      rw [if_neg c1']
      by_cases c2 : S.2.2 9 3 < K_bc (nI p)
      · have c2' : ((S.2.2 9) 3) < K_bc (nI p) := c2
        rw [if_pos c2']
        simp [c0, c1, c2]
      · have c2' : ¬ ((S.2.2 9) 3) < K_bc (nI p) := c2
        rw [if_neg c2', hall]
        simp [c0, c1, c2]
end
