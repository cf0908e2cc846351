/-! A teacher who is ill (reference): a row of classes, and whether it spreads the lost ones right. -/
noncomputable section
/-- the learners of a set of places -/
def LO (ω : Nat → Nat) (p : Nat) : Nat → Nat
  | 0 => 0
  | i + 1 => if p.testBit i = true then LO ω p i ||| 2 ^ ω i else LO ω p i
theorem LO_tb {ω : Nat → Nat} {p j : Nat} : ∀ n, (LO ω p n).testBit j = true ↔ ∃ i, i < n ∧ p.testBit i = true ∧ ω i = j := by
  intro n
  induction n with
  | zero => exact ⟨fun h => (by rw [show LO ω p 0 = 0 from rfl, Nat.zero_testBit] at h; cases h), fun ⟨i, h, _⟩ => absurd h (Nat.not_lt_zero _)⟩
  | succ n ih =>
    by_cases b : p.testBit n = true
    · rw [show LO ω p (n + 1) = LO ω p n ||| 2 ^ ω n from if_pos b, Nat.testBit_or, Nat.testBit_two_pow]
      constructor
      · intro h
        rw [Bool.or_eq_true] at h
        rcases h with h | h
        · obtain ⟨i, h1, h2⟩ := ih.mp h
          exact ⟨i, by omega, h2⟩
        · exact ⟨n, by omega, b, of_decide_eq_true h⟩
      · rintro ⟨i, h1, h2, h3⟩
        rw [Bool.or_eq_true]
        by_cases e : i = n
        · subst e; exact Or.inr (decide_eq_true h3)
        · exact Or.inl (ih.mpr ⟨i, by omega, h2, h3⟩)
    · rw [show LO ω p (n + 1) = LO ω p n from if_neg b, ih]
      constructor
      · rintro ⟨i, h1, h2⟩; exact ⟨i, by omega, h2⟩
      · rintro ⟨i, h1, h2, h3⟩
        by_cases e : i = n
        · subst e; exact absurd h2 b
        · exact ⟨i, by omega, h2, h3⟩
theorem LO_lt {ω : Nat → Nat} {p N : Nat} : ∀ n, (∀ i, i < n → ω i < N) → LO ω p n < 2 ^ N := by
  intro n
  induction n with
  | zero => intro _; exact Nat.two_pow_pos N
  | succ n ih =>
    intro h
    have h1 := ih (fun i hi => h i (by omega))
    unfold LO
    split
    · exact Nat.or_lt_two_pow h1 (Nat.pow_lt_pow_right (by decide) (h n (by omega)))
    · exact h1
theorem LO_congr {ω : Nat → Nat} {p q : Nat} : ∀ n, (∀ i, i < n → p.testBit i = q.testBit i) → LO ω p n = LO ω q n := by
  intro n
  induction n with
  | zero => intro _; rfl
  | succ n ih =>
    intro h
    unfold LO
    rw [ih (fun i hi => h i (by omega)), h n (by omega)]
/-- these places lie in no class that sits, and no two are one -/
def apart (ω : Nat → Nat) (b n : Nat) : Prop := (∀ i, i < n → ω i < 16 ∧ b.testBit (ω i) = false) ∧ ∀ i i', i < n → i' < n → ω i = ω i' → i = i'
theorem pop_LO {ω : Nat → Nat} {b p N : Nat} (h : apart ω b N) : ∀ n, n ≤ N → pop (b ||| LO ω p n) = pop b + bcn p n := by
  intro n
  induction n with
  | zero => intro _; rw [show LO ω p 0 = 0 from rfl, Nat.or_zero]; rfl
  | succ n ih =>
    intro hn
    have h1 := ih (by omega)
    by_cases c : p.testBit n = true
    · rw [show LO ω p (n + 1) = LO ω p n ||| 2 ^ ω n from if_pos c, bcn_s1 c, ← Nat.or_assoc, pop_add (h.1 n (by omega)).1, h1]
      · omega
      · rw [Nat.testBit_or, (h.1 n (by omega)).2, Bool.false_or]
        cases hc : (LO ω p n).testBit (ω n) with
        | false => rfl
        | true =>
          obtain ⟨i, i1, -, i3⟩ := (LO_tb n).mp hc
          have := h.2 i n (by omega) (by omega) i3
          omega
    · rw [show LO ω p (n + 1) = LO ω p n from if_neg c, bcn_s0 c, h1]
/-- those of the lost ones' places p may come to class k -/
def okI (S : Sch) (P : Pln) (tc : Int32) (ω : Nat → Nat) (n0 k p : Nat) : Prop :=
  (P.2 k 1 = tc → p = 0) ∧ (¬ P.2 k 1 = tc → (p = 0 ∨ ¬ S.2.2 9 3 < nI (pop (sN P k) + bcn p n0)) ∧ ∀ i, i < n0 → p.testBit i = true → ¬ K_can S (P.2 k) (nI (ω i)) = 0)
def bas (P : Pln) (tc : Int32) (k : Nat) : Nat := if P.2 k 1 = tc then 0 else sN P k
/-- digit i of row r -/
def de (n r i : Nat) : Nat := r / (n + 1) ^ i % (n + 1)
def Qk (n r k i : Nat) : Nat := pt (de n r) (2 ^ i - 1) k i
theorem Qk_tb {n r k i j : Nat} : (Qk n r k i).testBit j = true ↔ j < i ∧ de n r j = k := ptF
theorem Qk_lt {n r k i : Nat} : Qk n r k i < 2 ^ i := pt_lt
theorem Qk_ne {n r k i : Nat} (h : ¬ de n r i = k) : Qk n r k (i + 1) = Qk n r k i := by
  unfold Qk
  refine (ptF_eq (fun j => ?_)).symm
  rw [ptF]
  constructor
  · rintro ⟨a, b⟩; exact ⟨by omega, b⟩
  · rintro ⟨a, b⟩
    refine ⟨?_, b⟩
    refine Classical.byContradiction (fun c => h ?_)
    rw [← b, show i = j by omega]
theorem pop_lim {S : Sch} {P : Pln} {n0 p q k : Nat} (hn : n0 ≤ 16) (h : ∀ j, p.testBit j = true → q.testBit j = true) (c : ¬ S.2.2 9 3 < nI (pop (sN P k) + bcn q n0)) : ¬ S.2.2 9 3 < nI (pop (sN P k) + bcn p n0) := by
  have h1 := bcn_sub h n0
  have h2 := pop_le (sN P k)
  have h3 : ∀ t, bcn q t ≤ t := by
    intro t
    induction t with
    | zero => exact Nat.le_refl _
    | succ t ih =>
      show bcn q t + _ ≤ _
      split <;> omega
  have h4 := h3 n0
  rw [lt_toInt, nI_toInt (by omega)] at c ⊢
  omega
theorem okI_sub {S : Sch} {P : Pln} {tc : Int32} {ω : Nat → Nat} {n0 k p q : Nat} (hn : n0 ≤ 16) (h : ∀ j, p.testBit j = true → q.testBit j = true) (ho : okI S P tc ω n0 k q) : okI S P tc ω n0 k p := by
  have h0 : q = 0 → p = 0 := fun e => by
    refine Nat.eq_of_testBit_eq (fun j => ?_)
    rw [Nat.zero_testBit]
    cases c : p.testBit j with
    | false => rfl
    | true => have := h j c; rw [e, Nat.zero_testBit] at this; cases this
  refine ⟨fun e => h0 (ho.1 e), fun e => ?_⟩
  obtain ⟨a, b⟩ := ho.2 e
  exact ⟨a.imp h0 (pop_lim hn h), fun i hi hb => b i hi (h i hb)⟩
theorem Qk_mono {n r k i i' : Nat} (h : i ≤ i') : ∀ j, (Qk n r k i).testBit j = true → (Qk n r k i').testBit j = true := by
  intro j hj
  obtain ⟨a, b⟩ := Qk_tb.mp hj
  exact Qk_tb.mpr ⟨by omega, b⟩
theorem bcn_Q {n r k i n0 : Nat} (h : i ≤ n0) : bcn (Qk n r k i) n0 = bcn (Qk n r k i) i := bcn_top Qk_lt _ h
theorem spreads_sem {S : Sch} {P : Pln} {tc : Int32} {r0 n0 : Nat} {g vl vt : Nat → Int32} {ω : Nat → Nat} (hn : S.1 ≤ 16) (h6 : P.1 ≤ 6) (hgo : goP S P) (h16 : n0 ≤ 6) (hr0 : r0 < 2 ^ 31) (hω : ∀ i, i < n0 → vl i = nI (ω i) ∧ ω i < S.1) (hap : ∀ k, k < P.1 → apart ω (bas P tc k) n0) :
    ((K_m_spreads S P tc r0 n0 g vl vt).1 = 0 ∧ ¬ ∀ k, k < P.1 → okI S P tc ω n0 k (Qk P.1 r0 k n0)) ∨ ((K_m_spreads S P tc r0 n0 g vl vt).1 = 1 ∧ (∀ k, k < P.1 → okI S P tc ω n0 k (Qk P.1 r0 k n0)) ∧ ∀ k, k < P.1 → (K_m_spreads S P tc r0 n0 g vl vt).2 k = nI (bas P tc k ||| LO ω (Qk P.1 r0 k n0) n0)) := by
  have hp : 2 ^ S.1 ≤ 2 ^ 16 := Nat.pow_le_pow_right (by decide) hn
  have hbas : ∀ k, k < P.1 → bas P tc k < 2 ^ S.1 := by
    intro k hk
    unfold bas
    split
    · exact Nat.two_pow_pos _
    · exact (sN_eq hn hgo hk).2
  have hbase : ∀ k, k < P.1 → fo (F_m_spreads_14 S P tc r0 n0 g vl vt) P.1 0 vt k = nI (bas P tc k) := by
    intro k hk
    have := fo_updv (F := F_m_spreads_14 S P tc r0 n0 g vl vt) (v := fun k => if P.2 k 1 = tc then (0 : Int32) else P.2 k 5) (N := P.1) (fun k z _ => by
      unfold F_m_spreads_14
      split <;> rfl) vt k hk
    rw [this]
    unfold bas
    split
    · rfl
    · exact (sN_eq hn hgo hk).1
  have h := fe_inv (F := F_m_spreads_69 S P tc r0 n0 g vl vt) (fun i z => i ≤ n0 → z.1 = r0 / (P.1 + 1) ^ i ∧ (∀ k, k < P.1 → z.2.2 k = nI (bas P tc k ||| LO ω (Qk P.1 r0 k i) i)) ∧ ((z.2.1 = 1 ∧ ∀ k, k < P.1 → okI S P tc ω n0 k (Qk P.1 r0 k i)) ∨ (z.2.1 = 0 ∧ ∃ k, k < P.1 ∧ ¬ okI S P tc ω n0 k (Qk P.1 r0 k i)))) (fun r => r.1 = 0 ∧ ∃ k, k < P.1 ∧ ¬ okI S P tc ω n0 k (Qk P.1 r0 k n0)) n0 0 (r0, (1 : Int32), fo (F_m_spreads_14 S P tc r0 n0 g vl vt) P.1 0 vt)
    (fun _ => by
      refine ⟨by rw [Nat.pow_zero, Nat.div_one], fun k hk => ?_, Or.inl ⟨rfl, fun k hk => ?_⟩⟩
      · show fo (F_m_spreads_14 S P tc r0 n0 g vl vt) P.1 0 vt k = _
        rw [hbase k hk, show LO ω (Qk P.1 r0 k 0) 0 = 0 from rfl, Nat.or_zero]
      · have e : Qk P.1 r0 k 0 = 0 := by have := @Qk_lt P.1 r0 k 0; rw [Nat.pow_zero] at this; omega
        rw [e]
        exact ⟨fun _ => rfl, fun _ => ⟨Or.inl rfl, fun i _ hb => by rw [Nat.zero_testBit] at hb; cases hb⟩⟩)
    (fun i z _ hi hz => by
      have hi : i < n0 := by omega
      obtain ⟨z1, z2, z3⟩ := hz (by omega)
      obtain ⟨w1, w2⟩ := hω i hi
      have ec : (vl i).toNatClampNeg = ω i := by rw [w1, nI_clamp (by omega)]
      have hd : z.1 % (P.1 + 1) = de P.1 r0 i := by rw [z1]; rfl
      have hdiv : z.1 / (P.1 + 1) = r0 / (P.1 + 1) ^ (i + 1) := by rw [z1, Nat.pow_succ, Nat.div_div_eq_div_mul]
      have hdl : de P.1 r0 i ≤ P.1 := by
        have := Nat.mod_lt (r0 / (P.1 + 1) ^ i) (show 0 < P.1 + 1 by omega)
        unfold de
        omega
      unfold F_m_spreads_69
      rcases z3 with ⟨q1, q2⟩ | ⟨q1, k, q2, q3⟩
      · rw [if_neg (by rw [q1]; decide), hd]
        by_cases cn : de P.1 r0 i = P.1
        · rw [if_pos (by rw [cn])]
          refine ⟨fun z' hz' _ => ?_, fun r hr => (by cases hr)⟩
          cases hz'
          have hQ : ∀ k, k < P.1 → Qk P.1 r0 k (i + 1) = Qk P.1 r0 k i := fun k hk => Qk_ne (by omega)
          refine ⟨hdiv, fun k hk => ?_, Or.inl ⟨q1, fun k hk => by rw [hQ k hk]; exact q2 k hk⟩⟩
          have hnb : ¬ (Qk P.1 r0 k i).testBit i = true := fun c => by have := (Qk_tb.mp c).1; omega
          rw [hQ k hk, show LO ω (Qk P.1 r0 k i) (i + 1) = LO ω (Qk P.1 r0 k i) i from if_neg hnb]
          exact z2 k hk
        · rw [if_neg (fun c => cn (nI_injL (by omega) (by omega) c))]
          have hdn : de P.1 r0 i < P.1 := by omega
          have hbit : (Qk P.1 r0 (de P.1 r0 i) (i + 1)).testBit i = true := Qk_tb.mpr ⟨by omega, rfl⟩
          have hQ0 : ¬ Qk P.1 r0 (de P.1 r0 i) (i + 1) = 0 := fun c => by rw [c, Nat.zero_testBit] at hbit; cases hbit
          have hLO : LO ω (Qk P.1 r0 (de P.1 r0 i) (i + 1)) (i + 1) = LO ω (Qk P.1 r0 (de P.1 r0 i) i) i ||| 2 ^ ω i := by
            rw [show LO ω (Qk P.1 r0 (de P.1 r0 i) (i + 1)) (i + 1) = LO ω (Qk P.1 r0 (de P.1 r0 i) (i + 1)) i ||| 2 ^ ω i from if_pos hbit]
            refine congrArg (fun v => v ||| 2 ^ ω i) (LO_congr i (fun j hj => ?_))
            have a1 := @Qk_tb P.1 r0 (de P.1 r0 i) (i + 1) j
            have a2 := @Qk_tb P.1 r0 (de P.1 r0 i) i j
            cases c1 : (Qk P.1 r0 (de P.1 r0 i) (i + 1)).testBit j <;> cases c2 : (Qk P.1 r0 (de P.1 r0 i) i).testBit j
            · rfl
            · exact absurd (a1.mpr ⟨by omega, (a2.mp c2).2⟩) (by rw [c1]; decide)
            · exact absurd (a2.mpr ⟨hj, (a1.mp c1).2⟩) (by rw [c2]; decide)
            · rfl
          have hLl : LO ω (Qk P.1 r0 (de P.1 r0 i) i) i < 2 ^ S.1 := LO_lt i (fun j hj => (hω j (by omega)).2)
          have hnew : z.2.2 (de P.1 r0 i) ||| (1 : Int32) <<< (nI (vl i).toNatClampNeg &&& 31) = nI (bas P tc (de P.1 r0 i) ||| LO ω (Qk P.1 r0 (de P.1 r0 i) (i + 1)) (i + 1)) := by
            rw [z2 _ hdn, ec, or_bit (by have := Nat.or_lt_two_pow (hbas _ hdn) hLl; omega) (by omega), hLO, Nat.or_assoc]
          have hrow : ∀ k, k < P.1 → upd z.2.2 (de P.1 r0 i) (z.2.2 (de P.1 r0 i) ||| (1 : Int32) <<< (nI (vl i).toNatClampNeg &&& 31)) k = nI (bas P tc k ||| LO ω (Qk P.1 r0 k (i + 1)) (i + 1)) := by
            intro k hk
            by_cases e : k = de P.1 r0 i
            · subst e
              rw [pk_us, hnew]
            · have hnb : ¬ (Qk P.1 r0 k i).testBit i = true := fun c => by have := (Qk_tb.mp c).1; omega
              rw [pk_un e, Qk_ne (fun h => e h.symm), show LO ω (Qk P.1 r0 k i) (i + 1) = LO ω (Qk P.1 r0 k i) i from if_neg hnb]
              exact z2 k hk
          by_cases ct : P.2 (de P.1 r0 i) 1 = tc
          · rw [if_pos ct]
            refine ⟨fun z' hz' _ => ?_, fun r hr => (by cases hr)⟩
            cases hz'
            exact ⟨hdiv, hrow, Or.inr ⟨rfl, _, hdn, fun ho => hQ0 (ho.1 ct)⟩⟩
          · rw [if_neg ct, ec]
            by_cases cc : K_can S (P.2 (de P.1 r0 i)) (nI (ω i)) = 0
            · rw [if_pos cc]
              refine ⟨fun z' hz' _ => ?_, fun r hr => (by cases hr)⟩
              cases hz'
              rw [← ec]
              exact ⟨hdiv, hrow, Or.inr ⟨rfl, _, hdn, fun ho => (ho.2 ct).2 i hi hbit cc⟩⟩
            · rw [if_neg cc]
              have hb0 : bas P tc (de P.1 r0 i) = sN P (de P.1 r0 i) := if_neg ct
              have hmany : K_many (z.2.2 (de P.1 r0 i) ||| (1 : Int32) <<< (nI (ω i) &&& 31)) = nI (pop (sN P (de P.1 r0 i)) + bcn (Qk P.1 r0 (de P.1 r0 i) (i + 1)) n0) := by
                rw [← ec, hnew]
                have hl : bas P tc (de P.1 r0 i) ||| LO ω (Qk P.1 r0 (de P.1 r0 i) (i + 1)) (i + 1) < 2 ^ S.1 := Nat.or_lt_two_pow (hbas _ hdn) (LO_lt (i + 1) (fun j hj => (hω j (by omega)).2))
                rw [many_nI (by omega), bc_nI (by omega), pop_LO (hap _ hdn) (i + 1) (by omega), hb0, bcn_Q (n0 := n0) (by omega)]
              rw [hmany]
              by_cases cm : S.2.2 9 3 < nI (pop (sN P (de P.1 r0 i)) + bcn (Qk P.1 r0 (de P.1 r0 i) (i + 1)) n0)
              · rw [if_pos cm]
                refine ⟨fun z' hz' _ => ?_, fun r hr => (by cases hr)⟩
                cases hz'
                rw [← ec]
                exact ⟨hdiv, hrow, Or.inr ⟨rfl, _, hdn, fun ho => ((ho.2 ct).1.resolve_left hQ0) cm⟩⟩
              · rw [if_neg cm]
                refine ⟨fun z' hz' _ => ?_, fun r hr => (by cases hr)⟩
                cases hz'
                rw [← ec]
                refine ⟨hdiv, hrow, Or.inl ⟨rfl, fun k hk => ?_⟩⟩
                by_cases e : k = de P.1 r0 i
                · subst e
                  refine ⟨fun c => absurd c ct, fun _ => ⟨Or.inr cm, fun j hj hb => ?_⟩⟩
                  by_cases f : j = i
                  · subst f; exact cc
                  · have hb2 := Qk_tb.mp hb
                    exact ((q2 _ hdn).2 ct).2 j hj (Qk_tb.mpr ⟨by omega, hb2.2⟩)
                · rw [Qk_ne (fun h => e h.symm)]
                  exact q2 k hk
      · rw [if_pos q1]
        refine ⟨fun z' hz' => (by cases hz'), fun r hr => ?_⟩
        cases hr
        exact ⟨q1, k, q2, fun ho => q3 (okI_sub (by omega) (Qk_mono (by omega)) ho)⟩)
  rw [Nat.zero_add] at h
  unfold K_m_spreads
  generalize fe (F_m_spreads_69 S P tc r0 n0 g vl vt) n0 0 (r0, (1 : Int32), fo (F_m_spreads_14 S P tc r0 n0 g vl vt) P.1 0 vt) = s at h ⊢
  rcases s with z | r
  · obtain ⟨-, a2, a3⟩ := h.1 z rfl (Nat.le_refl _)
    rcases a3 with ⟨u, v⟩ | ⟨u, k, v1, v2⟩
    · exact Or.inr ⟨u, v, a2⟩
    · exact Or.inl ⟨u, fun c => v2 (c k v1)⟩
  · obtain ⟨u, k, v1, v2⟩ := h.2 r rfl
    exact Or.inl ⟨u, fun c => v2 (c k v1)⟩
end
