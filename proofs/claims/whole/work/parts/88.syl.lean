/-! The line of a school (class): what its stretches are worth. -/
noncomputable section
/-- who lies from place f on, n of them -/
def BT (ρ : Nat → Nat) (f : Nat) : Nat → Nat
  | 0 => 0
  | n + 1 => BT ρ f n ||| 2 ^ ρ (f + n)
theorem BT_lt {ρ : Nat → Nat} {f N : Nat} : ∀ n, (∀ i, i < n → ρ (f + i) < N) → BT ρ f n < 2 ^ N := by
  intro n
  induction n with
  | zero => intro _; exact Nat.two_pow_pos N
  | succ n ih =>
    intro h
    exact Nat.or_lt_two_pow (ih (fun i hi => h i (by omega))) (Nat.pow_lt_pow_right (by decide) (h n (by omega)))
theorem settle_sn {S : Sch} (hw : wS S) (D : Les) {w : Nat} (h : w < 131072) : sn (K_settle S D (nI w)).1 5049 := by
  have hi := fo_inv (F := F_settle_8 S D (nI w)) (fun i z => (i = 0 ∧ z.1 = -1) ∨ sn z.1 5049) 12 0 ((-1 : Int32), (0 : Int32), (D 3)) (Or.inl ⟨rfl, rfl⟩) (fun j z _ _ hz => by
    have ht := tog_sn hw (L_set D 3 (nI j)) h
    unfold F_settle_8
    rcases hz with ⟨-, e⟩ | hz
    · obtain ⟨n, h1, h2⟩ := ht
      rw [if_pos (by rw [e, h2, lt_toInt, nI_toInt (by omega), show (-1 : Int32).toInt = -1 from by decide]; omega)]
      exact Or.inr ⟨n, h1, h2⟩
    · split
      · exact Or.inr ht
      · exact Or.inr hz)
  rcases hi with ⟨h, -⟩ | h
  · exact absurd h (by decide)
  · exact h
/-- the row by numbers -/
def rowN (S : Sch) (ro : Nat → Int32) (k : Nat) : Nat := ((K_putRow S ro).2 k).toNatClampNeg
theorem rowN_eq {S : Sch} {ro : Nat → Int32} (hw : wS S) : (∀ k, k < S.1 → (K_putRow S ro).2 k = nI (rowN S ro k) ∧ rowN S ro k < S.1) ∧ (∀ a b, a < b → b < S.1 → key S (rowN S ro a) < key S (rowN S ro b)) ∧ ∀ l, l < S.1 → ∃ k, k < S.1 ∧ rowN S ro k = l := by
  obtain ⟨ρ, h1, h2, h3⟩ := (putRow_sem (ro := ro) hw).2
  have h16 := hw.1
  have e : ∀ k, k < S.1 → rowN S ro k = ρ k := fun k hk => by
    obtain ⟨a, b, -⟩ := h1 k hk
    unfold rowN
    rw [a, nI_clamp (by omega)]
  refine ⟨fun k hk => ?_, fun a b hab hb => ?_, fun l hl => ?_⟩
  · rw [e k hk]
    exact ⟨(h1 k hk).1, (h1 k hk).2.1⟩
  · rw [e a (by omega), e b hb]
    exact h2 a b hab hb
  · obtain ⟨k, k1, k2⟩ := h3 l hl trivial
    exact ⟨k, k1, (e k k1).trans k2⟩
theorem weigh_sem {S : Sch} {D : Les} {ro wo ws : Nat → Int32} {u : Int32} (hw : wS S) : (K_weigh S D ro wo ws u).1 = S.1 ∧ ∀ f n, vld S S.1 f n → (K_weigh S D ro wo ws u).2.2.1 (f * 17 + n) = (K_settle S D (nI (BT (rowN S ro) f n))).1 ∧ (K_weigh S D ro wo ws u).2.2.2.1 (f * 17 + n) = (K_settle S D (nI (BT (rowN S ro) f n))).2 := by
  have h16 := hw.1
  obtain ⟨hle, hle1, hle2⟩ := le_cl hw
  obtain ⟨hmo, hmo1, hmo2, hlm⟩ := mo_cl hw
  have hp1 := (putRow_sem (ro := ro) hw).1
  obtain ⟨r1, -, -⟩ := rowN_eq (ro := ro) hw
  have hp2 : 2 ^ S.1 ≤ 2 ^ 16 := Nat.pow_le_pow_right (by decide) h16
  have h := fo_inv (F := F_weigh_7 S D ro wo ws u) (fun i z => ∀ f n, f < i → vld S S.1 f n → z.1 (f * 17 + n) = (K_settle S D (nI (BT (rowN S ro) f n))).1 ∧ z.2.1 (f * 17 + n) = (K_settle S D (nI (BT (rowN S ro) f n))).2) S.1 0 (wo, ws, u) (fun f n h => absurd h (Nat.not_lt_zero _)) (fun i z _ hi hz => by
    have hi : i < S.1 := by omega
    have hin := fe_inv (F := F_weigh_20 S D ro wo ws u i z) (fun m z' => 1 ≤ m ∧ m ≤ 16 ∧ (i + m ≤ S.1 + 1) ∧ z'.1 = nI (BT (rowN S ro) i (m - 1)) ∧ ∀ f n, (f < i ∨ (f = i ∧ n < m)) → vld S S.1 f n → z'.2.1 (f * 17 + n) = (K_settle S D (nI (BT (rowN S ro) f n))).1 ∧ z'.2.2.1 (f * 17 + n) = (K_settle S D (nI (BT (rowN S ro) f n))).2) (fun r => ∀ f n, f < i + 1 → vld S S.1 f n → r.1 (f * 17 + n) = (K_settle S D (nI (BT (rowN S ro) f n))).1 ∧ r.2.1 (f * 17 + n) = (K_settle S D (nI (BT (rowN S ro) f n))).2) (((S.2.2 9 3).toNatClampNeg + 1) - 1) 1 ((0 : Int32), z.1, z.2.1, z.2.2)
      ⟨Nat.le_refl _, by omega, by omega, rfl, fun f n hf hv => by
        rcases hf with hf | ⟨_, hn⟩
        · exact hz f n hf hv
        · have := hv.1; omega⟩ (fun m z' hm1 hm2 hz' => by
        obtain ⟨-, q1, q2, q3, q4⟩ := hz'
        have hlt : nI ((K_putRow S ro).1) < (nI i) + (nI m) ↔ S.1 < i + m := by rw [hp1, nI_add]; exact nI_lt_iff (by omega) (by omega)
        unfold F_weigh_20
        by_cases c : S.1 < i + m
        · rw [if_pos (hlt.mpr c)]
          refine ⟨fun z'' e => (by cases e), fun r e => ?_⟩
          cases e
          intro f n hf hv
          refine q4 f n ?_ hv
          have := hv.2.2
          by_cases e : f = i
          · subst e; right; exact ⟨rfl, by omega⟩
          · left; omega
        · rw [if_neg (fun h => c (hlt.mp h))]
          obtain ⟨ra, rb⟩ := r1 (i + m - 1) (by omega)
          have hBl : BT (rowN S ro) i (m - 1) < 2 ^ S.1 := BT_lt _ (fun j hj => (r1 (i + j) (by omega)).2)
          have hB : z'.1 ||| ((1 : Int32) <<< (((K_putRow S ro).2 (i + m - 1)) &&& 31)) = nI (BT (rowN S ro) i m) := by
            rw [q3, ra, or_bit (by omega) (by omega)]
            obtain ⟨q, rfl⟩ : ∃ q, m = q + 1 := ⟨m - 1, by omega⟩
            show nI (BT (rowN S ro) i q ||| 2 ^ rowN S ro (i + q)) = nI (BT (rowN S ro) i q ||| 2 ^ rowN S ro (i + q))
            rfl
          have hle' : nI m < (S.2.2 9 2) ↔ m < (S.2.2 9 2).toNatClampNeg := by
            have := nI_lt_iff (a := m) (b := (S.2.2 9 2).toNatClampNeg) (by omega) (by omega)
            rw [← hle] at this
            exact this
          rw [hB]
          by_cases d : m < (S.2.2 9 2).toNatClampNeg
          · rw [if_pos (hle'.mpr d)]
            refine ⟨fun z'' e => ?_, fun r e => (by cases e)⟩
            cases e
            refine ⟨by omega, by omega, by omega, rfl, fun f n hf hv => ?_⟩
            refine q4 f n ?_ hv
            rcases hf with hf | ⟨hf, hn⟩
            · exact Or.inl hf
            · right
              have := hv.1
              exact ⟨hf, by omega⟩
          · rw [if_neg (fun h => d (hle'.mp h))]
            refine ⟨fun z'' e => ?_, fun r e => (by cases e)⟩
            cases e
            refine ⟨by omega, by omega, by omega, rfl, fun f n hf hv => ?_⟩
            show upd z'.2.1 (i * 17 + m) _ (f * 17 + n) = _ ∧ upd z'.2.2.1 (i * 17 + m) _ (f * 17 + n) = _
            have hn16 := hv.2.1
            by_cases e : f = i ∧ n = m
            · obtain ⟨e1, e2⟩ := e
              subst e1; subst e2
              rw [pk_us, pk_us]
              exact ⟨rfl, rfl⟩
            · have hne : f * 17 + n ≠ i * 17 + m := by
                intro h
                apply e
                have : m ≤ 15 := by omega
                constructor <;> omega
              rw [pk_un hne, pk_un hne]
              refine q4 f n ?_ hv
              rcases hf with hf | ⟨hf, hn⟩
              · exact Or.inl hf
              · right
                refine ⟨hf, ?_⟩
                have : n ≠ m := fun h => e ⟨hf, h⟩
                omega)
    unfold F_weigh_7
    generalize fe (F_weigh_20 S D ro wo ws u i z) (((S.2.2 9 3).toNatClampNeg + 1) - 1) 1 ((0 : Int32), z.1, z.2.1, z.2.2) = s at hin ⊢
    rcases s with a | a
    · obtain ⟨-, -, -, -, b⟩ := hin.1 a rfl
      intro f n hf hv
      refine b f n ?_ hv
      have := hv.2.1
      by_cases e : f = i
      · right; exact ⟨e, by omega⟩
      · left; omega
    · exact hin.2 a rfl)
  have e1 : (K_weigh S D ro wo ws u).1 = S.1 := hp1
  refine ⟨e1, fun f n hv => ?_⟩
  have hf : f < S.1 := by have := hv.1; have := hv.2.2; omega
  rw [Nat.zero_add] at h
  have := h f n hf hv
  show (fo (F_weigh_7 S D ro wo ws u) ((K_putRow S ro).1) 0 (wo, ws, u)).1 (f * 17 + n) = _ ∧ (fo (F_weigh_7 S D ro wo ws u) ((K_putRow S ro).1) 0 (wo, ws, u)).2.1 (f * 17 + n) = _
  rw [hp1]
  exact this
/-- what a stretch is worth -/
def wvF (S : Sch) (D : Les) (ρ : Nat → Nat) (f n : Nat) : Nat := ((K_settle S D (nI (BT ρ f n))).1).toNatClampNeg
theorem wvF_eq {S : Sch} {D : Les} {ρ : Nat → Nat} {f n : Nat} (hw : wS S) (h : ∀ i, i < n → ρ (f + i) < S.1) : (K_settle S D (nI (BT ρ f n))).1 = nI (wvF S D ρ f n) ∧ wvF S D ρ f n ≤ 5049 := by
  have hp2 : 2 ^ S.1 ≤ 2 ^ 16 := Nat.pow_le_pow_right (by decide) hw.1
  have hb := BT_lt (f := f) n h
  obtain ⟨v, v1, v2⟩ := settle_sn hw D (w := BT ρ f n) (by omega)
  unfold wvF
  rw [v2, nI_clamp (by omega)]
  exact ⟨rfl, v1⟩
theorem weigh_wv {S : Sch} {D : Les} {ro wo ws : Nat → Int32} {u : Int32} (hw : wS S) : ∀ f n, vld S (K_weigh S D ro wo ws u).1 f n → (K_weigh S D ro wo ws u).2.2.1 (f * 17 + n) = nI (wvF S D (rowN S ro) f n) ∧ wvF S D (rowN S ro) f n ≤ 5049 := by
  obtain ⟨h1, h2⟩ := weigh_sem (D := D) (ro := ro) (wo := wo) (ws := ws) (u := u) hw
  obtain ⟨r1, -, -⟩ := rowN_eq (ro := ro) hw
  intro f n hv
  rw [h1] at hv
  rw [(h2 f n hv).1]
  exact wvF_eq hw (fun i hi => (r1 (f + i) (by have := hv.2.2; omega)).2)
end
