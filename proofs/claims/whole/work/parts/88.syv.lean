/-! The line of a school: what a stretch is worth, on both sides. -/
noncomputable section
/-- what one learns in a class of step k where n sit -/
def tv (S : Sch) (k n : Nat) (l : Nat) : Int32 := K_base S (nI k) (S.2.2 0 l) * K_part S (nI n) / 100
theorem sum_row {v : Nat → Int32} {ρ : Nat → Nat} {f N : Nat} (hN : N ≤ 16) : ∀ m, (∀ i, i < m → ρ (f + i) < N) → (∀ i j, i < m → j < m → ρ (f + i) = ρ (f + j) → i = j) → sumB v (BT ρ f m) N = fo (fun i z => z + v (ρ i)) m f 0 := by
  intro m
  induction m with
  | zero =>
    intro _ _
    rw [show BT ρ f 0 = 0 from rfl]
    have : ∀ N, N ≤ 16 → sumB v 0 N = 0 := by
      intro N
      induction N with
      | zero => intro _; exact sumB_zero v 0
      | succ N ih =>
        intro h
        rw [sumB_succ, ih (by omega), if_neg (fun h => by
          have := (bit1 (m := 0) (j := N) (by omega) (by omega)).mp h
          rw [Nat.zero_testBit] at this
          cases this)]
        rfl
    rw [this N hN]
    rfl
  | succ m ih =>
    intro h1 h2
    have hl := h1 m (by omega)
    have hlt : BT ρ f m < 2 ^ N := BT_lt m (fun i hi => h1 i (by omega))
    have hp : 2 ^ N ≤ 2 ^ 16 := Nat.pow_le_pow_right (by decide) hN
    rw [show BT ρ f (m + 1) = BT ρ f m ||| 2 ^ ρ (f + m) from rfl, fo_last, sumB_add (by omega) (by omega) ?_ N hl hN, ih (fun i hi => h1 i (by omega)) (fun i j hi hj e => h2 i j (by omega) (by omega) e)]
    cases c : (BT ρ f m).testBit (ρ (f + m)) with
    | false => rfl
    | true =>
      obtain ⟨i, i1, i2⟩ := (BT_tb m).mp c
      have := h2 i m (by omega) (by omega) i2
      omega
theorem tog_row {S : Sch} {D : Les} {ρ : Nat → Nat} {f n k : Nat} (hw : wS S) (hD : D 0 = 0) (h1 : ∀ i, i < n → ρ (f + i) < S.1) (h2 : ∀ i j, i < n → j < n → ρ (f + i) = ρ (f + j) → i = j) : K_tog S (L_set D 3 (nI k)) (nI (BT ρ f n)) = fo (fun i z => z + tv S k n (ρ i)) n f 0 := by
  have h16 := hw.1
  have hlt : BT ρ f n < 2 ^ S.1 := BT_lt n h1
  have hp : 2 ^ S.1 ≤ 2 ^ 16 := Nat.pow_le_pow_right (by decide) h16
  have hbc : K_bc (nI (BT ρ f n)) = nI n := by
    rw [bc_nI (by omega), BT_pop n (fun i hi => by have := h1 i hi; omega) h2]
  have hby : ∀ l, K_by S (L_set D 3 (nI k)) (nI (BT ρ f n)) l = tv S k n l := by
    intro l
    have e0 : L_set D 3 (nI k) 0 = 0 := hD
    have e3 : L_set D 3 (nI k) 3 = nI k := rfl
    unfold K_by K_fitting K_alone tv
    rw [e0, hbc, e3, if_neg (by decide), if_neg (by decide), if_neg (by decide), if_neg (by decide), Int32.add_zero]
  rw [tog_by hw hlt, ← sum_row h16 n h1 h2]
  unfold sumB
  refine fo_rel (fun _ a b => a = b) S.1 0 0 0 rfl (fun j a b _ _ e => ?_)
  rw [e, hby]
theorem stretch_eq {S : Sch} {D : Les} {ρ : Nat → Nat} {f n : Nat} {g va : Nat → Int32} (hw : wS S) (hD : D 0 = 0) (hva : ∀ k, k < S.1 → va k = nI (ρ k) ∧ ρ k < S.1) (hinj : ∀ a b, a < S.1 → b < S.1 → ρ a = ρ b → a = b) (hfn : f + n ≤ S.1) : (K_m_stretch S f n g va).1 = (K_settle S D (nI (BT ρ f n))).1 ∧ (K_m_stretch S f n g va).2 16 = (K_settle S D (nI (BT ρ f n))).2 := by
  have h16 := hw.1
  have h1 : ∀ i, i < n → ρ (f + i) < S.1 := fun i hi => (hva (f + i) (by omega)).2
  have h2 : ∀ i j, i < n → j < n → ρ (f + i) = ρ (f + j) → i = j := fun i j hi hj e => by have := hinj _ _ (by omega) (by omega) e; omega
  have hp : 2 ^ S.1 ≤ 2 ^ 16 := Nat.pow_le_pow_right (by decide) h16
  have hlt : BT ρ f n < 2 ^ S.1 := BT_lt n h1
  have hsum : ∀ k (z : Int32 × (Nat → Int32)), fo (F_m_stretch_19 S f n g va k z) ((f + n) - f) f (0 : Int32) = K_tog S (L_set D 3 (nI k)) (nI (BT ρ f n)) := by
    intro k z
    rw [tog_row hw hD h1 h2, show f + n - f = n by omega]
    refine fo_rel (fun _ a b => a = b) n f 0 0 rfl (fun j a b hj1 hj2 e => ?_)
    unfold F_m_stretch_19 tv
    obtain ⟨e1, e2⟩ := hva j (by omega)
    rw [e, e1, nI_clamp (by omega)]
  have h := fo_rel (F := F_m_stretch_6 S f n g va) (G := F_settle_8 S D (nI (BT ρ f n))) (fun i a b => (i = 0 ∧ a.1 = -1 ∧ b.1 = -1) ∨ (a.1 = b.1 ∧ a.2 16 = b.2.1)) 12 0 ((-1 : Int32), g) ((-1 : Int32), (0 : Int32), (D 3)) (Or.inl ⟨rfl, rfl, rfl⟩) (fun j a b _ _ hab => by
    unfold F_m_stretch_6 F_settle_8
    rw [hsum]
    rcases hab with ⟨-, e1, e2⟩ | ⟨e1, e2⟩
    · obtain ⟨v, v1, v2⟩ := tog_sn hw (L_set D 3 (nI j)) (w := BT ρ f n) (by omega)
      have hpos : (-1 : Int32) < K_tog S (L_set D 3 (nI j)) (nI (BT ρ f n)) := by
        rw [v2, lt_toInt, nI_toInt (by omega), show (-1 : Int32).toInt = -1 from by decide]
        omega
      rw [e1, e2, if_pos hpos, if_pos hpos]
      exact Or.inr ⟨rfl, (show upd a.2 16 (nI j) 16 = nI j from pk_us)⟩
    · rw [e1]
      by_cases c : b.1 < K_tog S (L_set D 3 (nI j)) (nI (BT ρ f n))
      · rw [if_pos c, if_pos c]
        exact Or.inr ⟨rfl, (show upd a.2 16 (nI j) 16 = nI j from pk_us)⟩
      · rw [if_neg c, if_neg c]
        exact Or.inr ⟨rfl, e2⟩)
  rcases h with ⟨h, -⟩ | h
  · exact absurd h (by decide)
  · exact h
theorem rowN_inj {S : Sch} {ro : Nat → Int32} (hw : wS S) : ∀ a b, a < S.1 → b < S.1 → rowN S ro a = rowN S ro b → a = b := by
  obtain ⟨-, r2, -⟩ := rowN_eq (ro := ro) hw
  intro a b ha hb e
  rcases Nat.lt_trichotomy a b with c | c | c
  · have := r2 a b c hb; rw [e] at this; omega
  · exact c
  · have := r2 b a c ha; rw [e] at this; omega
/-- the reference's stretches are the class's -/
theorem stretch_wv {S : Sch} {D : Les} {ro g va : Nat → Int32} (hw : wS S) (hD : D 0 = 0) : ∀ G f n, vld S S.1 f n → (K_m_stretch S f n G (K_m_lines S g va)).1 = nI (wvF S D (rowN S ro) f n) ∧ wvF S D (rowN S ro) f n ≤ 5049 := by
  intro G f n hv
  have hr := rows_eq (ro := ro) (g := g) (va := va) hw
  rw [(stretch_eq (g := G) hw hD hr (rowN_inj hw) hv.2.2).1]
  exact wvF_eq hw (fun i hi => (hr (f + i) (by have := hv.2.2; omega)).2)
end
