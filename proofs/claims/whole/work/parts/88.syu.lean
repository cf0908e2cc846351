/-! The line of a school: both sides' rows and stretches. -/
noncomputable section
theorem key_inj {S : Sch} {a b : Nat} (ha : a < 16) (hb : b < 16) (h : key S a = key S b) : a = b := by
  unfold key at h
  omega
theorem sorted_uniq {S : Sch} {f g : Nat → Int32} (h16 : S.1 ≤ 16) (hf : sorted S (fun _ => True) S.1 f) (hg : sorted S (fun _ => True) S.1 g) : ∀ k, k < S.1 → f k = g k := by
  obtain ⟨ρ, a1, a2, a3⟩ := hf
  obtain ⟨τ, b1, b2, b3⟩ := hg
  have key1 : ∀ k, k < S.1 → ρ k = τ k := by
    intro k
    induction k using Nat.strongRecOn with
    | _ k ih =>
      intro hk
      have half : ∀ (ρ τ : Nat → Nat), (∀ j, j < k → ρ j = τ j) → (∀ k, k < S.1 → ρ k < S.1) → (∀ a b, a < b → b < S.1 → key S (ρ a) < key S (ρ b)) → (∀ a b, a < b → b < S.1 → key S (τ a) < key S (τ b)) → (∀ l, l < S.1 → True → ∃ k, k < S.1 ∧ τ k = l) → key S (τ k) ≤ key S (ρ k) := by
        intro ρ τ he hr hi hi2 hs
        obtain ⟨j, j1, j2⟩ := hs (ρ k) (hr k hk) trivial
        rcases Nat.lt_trichotomy j k with c | c | c
        · have h1 := hi j k c hk
          rw [he j c, j2] at h1
          omega
        · rw [← j2, c]; exact Nat.le_refl _
        · have h1 := hi2 k j c j1
          rw [j2] at h1
          omega
      have u := half ρ τ (fun j hj => ih j hj (by omega)) (fun k hk => (a1 k hk).2.1) a2 b2 b3
      have v := half τ ρ (fun j hj => (ih j hj (by omega)).symm) (fun k hk => (b1 k hk).2.1) b2 a2 a3
      have w1 := (a1 k hk).2.1
      have w2 := (b1 k hk).2.1
      exact key_inj (S := S) (by omega) (by omega) (by omega)
  intro k hk
  rw [(a1 k hk).1, (b1 k hk).1, key1 k hk]
theorem lines_sem {S : Sch} {g va : Nat → Int32} (hw : wS S) : sorted S (fun _ => True) S.1 (K_m_lines S g va) := by
  have h16 := hw.1
  have h := fo_inv (F := F_m_lines_2 S g va) (fun k f => k ≤ S.1 → sorted S (fun l => l < k) k f) S.1 0 va (fun _ => ⟨fun k => k, fun k hk => absurd hk (Nat.not_lt_zero _), fun a b _ hb => absurd hb (Nat.not_lt_zero _), fun l _ h => absurd h (Nat.not_lt_zero _)⟩) (fun k z _ hk hz hle => by
    have hk : k < S.1 := by omega
    obtain ⟨ρ, r1, r2, r3⟩ := hz (by omega)
    obtain ⟨e1, e2⟩ := stp_eq hw hk
    have r2' : ∀ a b, a ≤ b → b < k → key S (ρ a) ≤ key S (ρ b) := fun a b hab hb => by
      by_cases e : a = b
      · rw [e]; exact Nat.le_refl _
      · exact Nat.le_of_lt (r2 a b (by omega) hb)
    -- a new one at place p
    have fin : ∀ (p : Nat) (z' : Nat → Int32), p ≤ k → (∀ j, j < p → z' j = nI (ρ j)) → (∀ j, p < j → j ≤ k → z' j = nI (ρ (j - 1))) → (∀ j, p ≤ j → j < k → stp S k < stp S (ρ j)) → (p = 0 ∨ stp S (ρ (p - 1)) ≤ stp S k) → sorted S (fun l => l < k + 1) (k + 1) (upd z' p (nI k)) := by
      intro p z' hp h1 h2 h3 h4
      refine ⟨fun j => if j < p then ρ j else if j = p then k else ρ (j - 1), fun j hj => ?_, fun a b hab hb => ?_, fun l hl hlk => ?_⟩
      · dsimp only
        by_cases c : j < p
        · rw [if_pos c, pk_un (by omega), h1 j c]
          obtain ⟨-, u, v⟩ := r1 j (by omega)
          exact ⟨rfl, u, by omega⟩
        · by_cases d : j = p
          · rw [if_neg c, if_pos d, d, pk_us]
            exact ⟨rfl, hk, by omega⟩
          · rw [if_neg c, if_neg d, pk_un d, h2 j (by omega) (by omega)]
            obtain ⟨-, u, v⟩ := r1 (j - 1) (by omega)
            exact ⟨rfl, u, by omega⟩
      · dsimp only
        have hlowk : ∀ a, a < p → key S (ρ a) < key S k := by
          intro a ha
          rcases h4 with h4 | h4
          · omega
          · have h5 := r2' a (p - 1) (by omega) (by omega)
            have h6 := (r1 (p - 1) (by omega)).2.2
            unfold key at h5 ⊢
            omega
        have hupk : ∀ b, p ≤ b → b < k → key S k < key S (ρ b) := by
          intro b hb1 hb2
          have := h3 b hb1 hb2
          unfold key
          omega
        by_cases c : a < p
        · rw [if_pos c]
          by_cases d : b < p
          · rw [if_pos d]; exact r2 a b hab (by omega)
          · rw [if_neg d]
            by_cases e : b = p
            · rw [if_pos e]; exact hlowk a c
            · rw [if_neg e]; exact Nat.lt_of_lt_of_le (hlowk a c) (Nat.le_of_lt (hupk (b - 1) (by omega) (by omega)))
        · rw [if_neg c, if_neg (show ¬ b < p by omega), if_neg (show ¬ b = p by omega)]
          by_cases d : a = p
          · rw [if_pos d]; exact hupk (b - 1) (by omega) (by omega)
          · rw [if_neg d]; exact r2 (a - 1) (b - 1) (by omega) (by omega)
      · by_cases c : l = k
        · refine ⟨p, by omega, ?_⟩
          dsimp only
          rw [if_neg (Nat.lt_irrefl _), if_pos rfl, c]
        · obtain ⟨j, j1, j2⟩ := r3 l hl (by omega)
          by_cases d : j < p
          · exact ⟨j, by omega, by dsimp only; rw [if_pos d]; exact j2⟩
          · exact ⟨j + 1, by omega, by dsimp only; rw [if_neg (show ¬ j + 1 < p by omega), if_neg (show ¬ j + 1 = p by omega)]; exact j2⟩
    have hin := fe_inv (F := F_m_lines_14 S g va k z) (fun k' z' => k' ≤ k → (∀ j, j < k - k' → z' j = nI (ρ j)) ∧ (∀ j, k - k' < j → j ≤ k → z' j = nI (ρ (j - 1))) ∧ ∀ j, k - k' ≤ j → j < k → stp S k < stp S (ρ j)) (fun r => sorted S (fun l => l < k + 1) (k + 1) (upd r.2 r.1 (nI k))) k 0 z (fun _ => ⟨fun j hj => (r1 j (by omega)).1, fun j h1 h2 => by omega, fun j h1 h2 => by omega⟩) (fun k' z' _ hk' hz' => by
      have hk' : k' < k := by omega
      obtain ⟨q1, q2, q3⟩ := hz' (by omega)
      have hp := q1 (k - k' - 1) (by omega)
      obtain ⟨-, hr, -⟩ := r1 (k - k' - 1) (by omega)
      obtain ⟨u1, u2⟩ := stp_eq hw hr
      have hlt : (S.2.2 0 k) < (S.2.2 0 ((z' ((k - k') - 1)).toNatClampNeg)) ↔ stp S k < stp S (ρ (k - k' - 1)) := by
        rw [hp, nI_clamp (by omega), e1, u1]
        exact nI_lt_iff (by omega) (by omega)
      unfold F_m_lines_14
      by_cases c : stp S k < stp S (ρ (k - k' - 1))
      · rw [if_pos (hlt.mpr c)]
        refine ⟨fun z'' e _ => ?_, fun r e => (by cases e)⟩
        cases e
        refine ⟨fun j hj => ?_, fun j h1 h2 => ?_, fun j h1 h2 => ?_⟩
        · rw [pk_un (by omega)]; exact q1 j (by omega)
        · by_cases d : j = k - k'
          · rw [d, pk_us, hp]
          · rw [pk_un d]; exact q2 j (by omega) h2
        · by_cases d : j = k - k' - 1
          · rw [d]; exact c
          · exact q3 j (by omega) h2
      · rw [if_neg (fun h => c (hlt.mp h))]
        refine ⟨fun z'' e => (by cases e), fun r e => ?_⟩
        cases e
        exact fin (k - k') z' (by omega) q1 q2 q3 (Or.inr (by omega)))
    unfold F_m_lines_2
    rw [Nat.zero_add] at hin
    generalize fe (F_m_lines_14 S g va k z) k 0 z = s at hin ⊢
    rcases s with a | a
    · obtain ⟨q1, q2, q3⟩ := hin.1 a rfl (Nat.le_refl _)
      exact fin (k - k) a (by omega) q1 q2 q3 (Or.inl (by omega))
    · exact hin.2 a rfl)
  rw [Nat.zero_add] at h
  exact sorted_congr (fun l hl => ⟨fun _ => trivial, fun _ => hl⟩) (h (Nat.le_refl _))
/-- both rows are one -/
theorem rows_eq {S : Sch} {ro g va : Nat → Int32} (hw : wS S) : ∀ k, k < S.1 → K_m_lines S g va k = nI (rowN S ro k) ∧ rowN S ro k < S.1 := by
  intro k hk
  obtain ⟨r1, -, -⟩ := rowN_eq (ro := ro) hw
  have h := sorted_uniq hw.1 (lines_sem (g := g) (va := va) hw) (putRow_sem (ro := ro) hw).2 k hk
  rw [h]
  exact r1 k hk
theorem or_lt16 {m r : Nat} (hm : m < 65536) (hr : r < 16) : m ||| 2 ^ r < 65536 := by
  have e16 : (2 : Nat) ^ 16 = 65536 := by decide
  rw [← e16]
  refine Nat.or_lt_two_pow ?_ (Nat.pow_lt_pow_right (by decide) hr)
  rw [e16]
  exact hm
theorem bit_or {m r l : Nat} (hm : m < 65536) (hr : r < 16) (hl : l < 16) : (K_bit (nI (m ||| 2 ^ r)) (nI l) = 1 ↔ m.testBit l = true ∨ l = r) ∧ (K_bit (nI m) (nI l) = 1 ↔ m.testBit l = true) := by
  have hor := or_lt16 hm hr
  generalize hM : m ||| 2 ^ r = M at hor
  have e1 : K_bit (nI M) (nI l) = 1 ↔ M.testBit l = true := bit1 (by omega) (by omega)
  have e2 : K_bit (nI m) (nI l) = 1 ↔ m.testBit l = true := bit1 (by omega) (by omega)
  refine ⟨e1.trans ?_, e2⟩
  rw [← hM, Nat.testBit_or, Nat.testBit_two_pow, Bool.or_eq_true, decide_eq_true_eq]
  exact ⟨fun h => h.imp id Eq.symm, fun h => h.imp id Eq.symm⟩
/-- a sum over a set -/
def sumB (v : Nat → Int32) (m N : Nat) : Int32 := fo (fun l x => x + (if K_bit (nI m) (nI l) = 1 then v l else 0)) N 0 0
theorem sumB_zero (v : Nat → Int32) (m : Nat) : sumB v m 0 = 0 := rfl
theorem sumB_succ (v : Nat → Int32) (m N : Nat) : sumB v m (N + 1) = sumB v m N + (if K_bit (nI m) (nI N) = 1 then v N else 0) := by
  unfold sumB
  rw [fo_last, Nat.zero_add]
theorem sumB_low {v : Nat → Int32} {m r : Nat} (hm : m < 65536) (hr : r < 16) : ∀ N, N ≤ r → sumB v (m ||| 2 ^ r) N = sumB v m N := by
  intro N
  induction N with
  | zero => intro _; rw [sumB_zero, sumB_zero]
  | succ N ih =>
    intro h
    obtain ⟨b1, b2⟩ := bit_or (l := N) hm hr (by omega)
    rw [sumB_succ, sumB_succ, ih (by omega)]
    by_cases c : m.testBit N = true
    · rw [if_pos (b1.mpr (Or.inl c)), if_pos (b2.mpr c)]
    · rw [if_neg (fun h => (b1.mp h).elim c (fun e => by omega)), if_neg (fun h => c (b2.mp h))]
theorem sumB_add {v : Nat → Int32} {m r : Nat} (hm : m < 65536) (hr : r < 16) (hn : m.testBit r = false) : ∀ N, r < N → N ≤ 16 → sumB v (m ||| 2 ^ r) N = sumB v m N + v r := by
  intro N
  induction N with
  | zero => intro h; omega
  | succ N ih =>
    intro h h2
    obtain ⟨b1, b2⟩ := bit_or (l := N) hm hr (by omega)
    rw [sumB_succ, sumB_succ]
    by_cases e : r = N
    · subst e
      rw [sumB_low hm hr r (Nat.le_refl _), if_pos (b1.mpr (Or.inr rfl)), if_neg (fun h => by rw [b2.mp h] at hn; cases hn), Int32.add_zero]
    · rw [ih (by omega) (by omega)]
      by_cases c : m.testBit N = true
      · rw [if_pos (b1.mpr (Or.inl c)), if_pos (b2.mpr c), Int32.add_assoc, Int32.add_assoc, Int32.add_comm (v r)]
      · rw [if_neg (fun h => (b1.mp h).elim c (fun e2 => e e2.symm)), if_neg (fun h => c (b2.mp h)), Int32.add_zero, Int32.add_zero]
theorem BT_tb {ρ : Nat → Nat} {f j : Nat} : ∀ n, (BT ρ f n).testBit j = true ↔ ∃ i, i < n ∧ ρ (f + i) = j := by
  intro n
  induction n with
  | zero => exact ⟨fun h => (by rw [show BT ρ f 0 = 0 from rfl, Nat.zero_testBit] at h; cases h), fun ⟨i, h, _⟩ => absurd h (Nat.not_lt_zero _)⟩
  | succ n ih =>
    rw [show BT ρ f (n + 1) = BT ρ f n ||| 2 ^ ρ (f + n) from rfl, Nat.testBit_or, Nat.testBit_two_pow, Bool.or_eq_true, ih, decide_eq_true_eq]
    constructor
    · rintro (⟨i, a, b⟩ | a)
      · exact ⟨i, by omega, b⟩
      · exact ⟨n, by omega, a⟩
    · rintro ⟨i, a, b⟩
      by_cases e : i = n
      · subst e; exact Or.inr b
      · exact Or.inl ⟨i, by omega, b⟩
theorem pop_zero : pop 0 = 0 := by decide
theorem BT_pop {ρ : Nat → Nat} {f : Nat} : ∀ n, (∀ i, i < n → ρ (f + i) < 16) → (∀ i j, i < n → j < n → ρ (f + i) = ρ (f + j) → i = j) → pop (BT ρ f n) = n := by
  intro n
  induction n with
  | zero => intro _ _; rw [show BT ρ f 0 = 0 from rfl]; exact pop_zero
  | succ n ih =>
    intro h1 h2
    rw [show BT ρ f (n + 1) = BT ρ f n ||| 2 ^ ρ (f + n) from rfl, pop_add (h1 n (by omega)), ih (fun i hi => h1 i (by omega)) (fun i j hi hj e => h2 i j (by omega) (by omega) e)]
    cases c : (BT ρ f n).testBit (ρ (f + n)) with
    | false => rfl
    | true =>
      obtain ⟨i, i1, i2⟩ := (BT_tb n).mp c
      have := h2 i n (by omega) (by omega) i2
      omega
end
