/-! Sets shared out among classes: the tables' rows, in whole numbers. -/
noncomputable section
/-- the set of those below m for whom p holds -/
def sfl (p : Nat → Bool) : Nat → Nat
  | 0 => 0
  | m + 1 => sfl p m ||| (if p m = true then 2 ^ m else 0)
theorem sfl_tb (p : Nat → Bool) : ∀ m j, (sfl p m).testBit j = (decide (j < m) && p j) := by
  intro m
  induction m with
  | zero => intro j; simp [sfl]
  | succ m ih =>
    intro j
    unfold sfl
    rw [Nat.testBit_or, ih]
    by_cases h : p m = true
    · rw [if_pos h, Nat.testBit_two_pow]
      by_cases e : j = m
      · subst e; simp [h]
      · have e2 : decide (m = j) = false := by simp; omega
        rw [e2, Bool.or_false]
        by_cases g : j < m
        · simp [g, show j < m + 1 by omega]
        · simp [g, show ¬ j < m + 1 by omega]
    · rw [if_neg h, Nat.zero_testBit, Bool.or_false]
      by_cases e : j = m
      · subst e; simp [h]
      · by_cases g : j < m
        · simp [g, show j < m + 1 by omega]
        · simp [g, show ¬ j < m + 1 by omega]
theorem sfl_lt (p : Nat → Bool) (m : Nat) : sfl p m < 2 ^ m := by
  refine Nat.lt_pow_two_of_testBit _ (fun i hi => ?_)
  rw [sfl_tb]
  simp; omega
theorem tb_lt {s m j : Nat} (h : s < 2 ^ m) (hj : s.testBit j = true) : j < m := by
  refine Nat.lt_of_not_le (fun c => ?_)
  rw [Nat.testBit_lt_two_pow (Nat.lt_of_lt_of_le h (Nat.pow_le_pow_right (by decide) c))] at hj
  cases hj
theorem sub_lowG : ∀ (m s d : Nat), m &&& s = m → d &&& s = d → d < m → d ≤ (m - 1) &&& s := by
  intro m
  induction m using Nat.strongRecOn with
  | _ m ih =>
    intro s d h1 h2 h3
    have e1 : m / 2 &&& s / 2 = m / 2 := by rw [← Nat.and_div_two, h1]
    have e2 : d / 2 &&& s / 2 = d / 2 := by rw [← Nat.and_div_two, h2]
    have r2 : ((m - 1) &&& s) / 2 = (m - 1) / 2 &&& s / 2 := Nat.and_div_two
    by_cases c : m % 2 = 1
    · have : (m - 1) / 2 = m / 2 := by omega
      rw [this, e1] at r2
      omega
    · have e3 : (m - 1) / 2 = m / 2 - 1 := by omega
      have h4 := ih (m / 2) (by omega) (s / 2) (d / 2) e1 e2 (by omega)
      rw [e3] at r2
      rw [← r2] at h4
      have t1 : d.testBit 0 = (d.testBit 0 && s.testBit 0) := by rw [← Nat.testBit_and, h2]
      have t2 : ((m - 1) &&& s).testBit 0 = ((m - 1).testBit 0 && s.testBit 0) := Nat.testBit_and _ _ _
      simp only [Nat.testBit_zero] at t1 t2
      rw [show decide ((m - 1) % 2 = 1) = true from by simp; omega, Bool.true_and] at t2
      by_cases cd : d % 2 = 1
      · have cs : s % 2 = 1 := by
          simp [cd] at t1
          omega
        rw [decide_eq_true cs] at t2
        have t3 := of_decide_eq_true t2
        omega
      · omega
theorem sub_ltP {p s m : Nat} (h : p &&& s = p) (hs : s < 2 ^ m) : p < 2 ^ m := by
  have : p ≤ s := by rw [← h]; exact Nat.and_le_right
  omega
/-- what is most for the set s, by the worth row we and the table b -/
def isG (b we : Nat → Int32) (s : Nat) (v : Int32) : Prop :=
  (∀ p, p &&& s = p → ¬ we p = -1000000000 → we p + b (s ^^^ (s &&& p)) ≤ v) ∧ (v = -1000000000 ∨ ∃ p, p &&& s = p ∧ ¬ we p = -1000000000 ∧ v = we p + b (s ^^^ (s &&& p)))
theorem msk_le {s p : Nat} : s ^^^ (s &&& p) ≤ s := by
  rw [show s ^^^ (s &&& p) = s &&& (s ^^^ (s &&& p)) from ?_]
  · exact Nat.and_le_left
  · refine Nat.eq_of_testBit_eq (fun j => ?_)
    simp only [Nat.testBit_xor, Nat.testBit_and]
    cases s.testBit j <;> cases p.testBit j <;> rfl
theorem give_step {n : Nat} {be we b : Nat → Int32} {s0 m : Nat} (hs : s0 < 65536) (hm : m ≤ s0) (a : Int32) : F_give_18 n be we (nI s0, b) (a, nI m) = .inl (if we m = -1000000000 then a else if a < we m + b (s0 ^^^ (s0 &&& m)) then we m + b (s0 ^^^ (s0 &&& m)) else a, if m = 0 then -1 else nI ((m - 1) &&& s0)) := by
  have e1 : (nI m).toNatClampNeg = m := nI_clamp (by omega)
  have e2 : (nI s0 &&& (nI m ^^^ (-1 : Int32))).toNatClampNeg = s0 ^^^ (s0 &&& m) := by
    rw [msk_nI hs (by omega), nI_clamp (by have := @msk_le s0 m; omega)]
  unfold F_give_18
  dsimp only
  rw [if_neg (nI_pos (by omega)), e1, e2]
  by_cases h0 : m = 0
  · subst h0
    rw [if_pos (show nI 0 = 0 from rfl), if_pos (show nI 0 = 0 from rfl), if_pos rfl]
    split <;> rfl
  · have hz : ¬ nI m = 0 := by
      intro e
      exact h0 (nI_injL (b := 0) (by omega) (by omega) e)
    obtain ⟨q, rfl⟩ : ∃ q, m = q + 1 := ⟨m - 1, by omega⟩
    rw [if_neg hz, if_neg hz, if_neg h0, nI_pred, and_nI (by omega) (by omega), show q + 1 - 1 = q from rfl]
    split <;> rfl
theorem lt_or_le (x y : Int32) : x < y ∨ y ≤ x := by
  rw [lt_toInt, le_toInt]
  omega
theorem le_rf (x : Int32) : x ≤ x := by rw [le_toInt]; exact Int.le_refl _
theorem le_tr {x y z : Int32} (h : x ≤ y) (g : y ≤ z) : x ≤ z := by rw [le_toInt] at *; omega
theorem le_of_ltI {x y : Int32} (h : x < y) : x ≤ y := by rw [le_toInt]; rw [lt_toInt] at h; omega
theorem give_run {n : Nat} {be we b : Nat → Int32} {s0 : Nat} (hs : s0 < 65536) : ∀ f (a u : Int32), (u = -1 ∨ ∃ m, m ≤ s0 ∧ m &&& s0 = m ∧ u = nI m) → mu_sub u < f →
    (∀ p m, u = nI m → p &&& s0 = p → p ≤ m → m ≤ s0 → ¬ we p = -1000000000 → we p + b (s0 ^^^ (s0 &&& p)) ≤ fw (F_give_18 n be we (nI s0, b)) 0 f (a, u)) ∧ a ≤ fw (F_give_18 n be we (nI s0, b)) 0 f (a, u) ∧ (fw (F_give_18 n be we (nI s0, b)) 0 f (a, u) = a ∨ ∃ p, p &&& s0 = p ∧ ¬ we p = -1000000000 ∧ fw (F_give_18 n be we (nI s0, b)) 0 f (a, u) = we p + b (s0 ^^^ (s0 &&& p))) := by
  intro f
  induction f with
  | zero => intro a u _ h; omega
  | succ f ih =>
    intro a u hu hmu
    rw [fw_succ]
    rcases hu with rfl | ⟨m, h1, h2, rfl⟩
    · have hF : F_give_18 n be we (nI s0, b) (a, -1) = .inr a := by
        unfold F_give_18
        exact if_pos (show (-1 : Int32) < 0 by decide)
      rw [hF, Sum.elim_inr]
      refine ⟨fun p m e _ hp hm => ?_, le_rf _, Or.inl rfl⟩
      exact absurd (show nI m < 0 by rw [← e]; decide) (nI_pos (by omega))
    · rw [give_step hs h1, Sum.elim_inl]
      generalize hA : (if we m = -1000000000 then a else if a < we m + b (s0 ^^^ (s0 &&& m)) then we m + b (s0 ^^^ (s0 &&& m)) else a) = A
      generalize hU : (if m = 0 then (-1 : Int32) else nI ((m - 1) &&& s0)) = U
      have hAa : a ≤ A := by
        rw [← hA]
        split
        · exact le_rf _
        · split
          · exact le_of_ltI (by assumption)
          · exact le_rf _
      have hAm : ¬ we m = -1000000000 → we m + b (s0 ^^^ (s0 &&& m)) ≤ A := by
        intro hw
        rw [← hA, if_neg hw]
        split
        · exact le_rf _
        · rename_i c
          exact (lt_or_le _ _).resolve_left c
      have hAe : A = a ∨ ∃ p, p &&& s0 = p ∧ ¬ we p = -1000000000 ∧ A = we p + b (s0 ^^^ (s0 &&& p)) := by
        rw [← hA]
        split
        · exact Or.inl rfl
        · split
          · exact Or.inr ⟨m, h2, by assumption, rfl⟩
          · exact Or.inl rfl
      have hm2 : mu_sub U < f := by
        have hx : mu_sub (nI m) = m + 1 := by
          unfold mu_sub
          rw [if_neg (nI_pos (by omega)), nI_clamp (by omega)]
        rw [hx] at hmu
        rw [← hU]
        split
        · have : mu_sub (-1) = 0 := by unfold mu_sub; exact if_pos (by decide)
          omega
        · have hl : (m - 1) &&& s0 ≤ m - 1 := Nat.and_le_left
          unfold mu_sub
          rw [if_neg (nI_pos (by omega)), nI_clamp (by omega)]
          omega
      have hU2 : U = -1 ∨ ∃ m', m' ≤ s0 ∧ m' &&& s0 = m' ∧ U = nI m' := by
        rw [← hU]
        split
        · exact Or.inl rfl
        · exact Or.inr ⟨_, Nat.and_le_right, by rw [Nat.and_assoc, Nat.and_self], rfl⟩
      obtain ⟨i1, i2, i3⟩ := ih A U hU2 hm2
      refine ⟨fun p m' e hp hpm hm' hw => ?_, le_tr hAa i2, ?_⟩
      · have : m = m' := nI_injL (by omega) (by omega) e
        subst this
        by_cases e2 : p = m
        · subst e2
          exact le_tr (hAm hw) i2
        · have hl := sub_lowG m s0 p h2 hp (by omega)
          refine i1 p ((m - 1) &&& s0) ?_ hp hl Nat.and_le_right hw
          rw [← hU, if_neg (by omega)]
      · rcases i3 with h | h
        · rw [h]; exact hAe
        · exact Or.inr h
theorem give_out {n : Nat} {be we : Nat → Int32} : ∀ (t f : Nat) (b : Nat → Int32), t < 65536 → t < f → (∀ p, t ≤ p → fw (F_give_9 n be we) be f (nI t - 1, b) p = b p) ∧ ∀ s, s < t → isG b we s (fw (F_give_9 n be we) be f (nI t - 1, b) s) := by
  intro t
  induction t with
  | zero =>
    intro f b _ hf
    obtain ⟨f', rfl⟩ : ∃ f', f = f' + 1 := ⟨f - 1, by omega⟩
    rw [fw_succ]
    have hF : F_give_9 n be we (nI 0 - 1, b) = .inr b := by
      unfold F_give_9
      exact if_pos (show nI 0 - 1 < 0 by decide)
    rw [hF, Sum.elim_inr]
    exact ⟨fun _ _ => rfl, fun s h => by omega⟩
  | succ t ih =>
    intro f b ht hf
    obtain ⟨f', rfl⟩ : ∃ f', f = f' + 1 := ⟨f - 1, by omega⟩
    rw [fw_succ]
    generalize hv : fw (F_give_18 n be we (nI t, b)) (0 : Int32) (t + 2) ((-1000000000 : Int32), nI t) = v
    have hF : F_give_9 n be we (nI (t + 1) - 1, b) = .inl (nI t - 1, upd b t v) := by
      rw [nI_pred]
      unfold F_give_9
      dsimp only
      rw [if_neg (nI_pos (by omega)), nI_clamp (by omega), hv, Int32.sub_eq_add_neg]
    rw [hF, Sum.elim_inl]
    obtain ⟨i1, i2⟩ := ih f' (upd b t v) (by omega) (by omega)
    refine ⟨fun p hp => ?_, fun s hst => ?_⟩
    · rw [i1 p (by omega)]
      exact pk_un (by omega)
    · by_cases e : s = t
      · subst e
        rw [i1 s (Nat.le_refl _), pk_us]
        have hmu : mu_sub (nI s) < s + 2 := by
          unfold mu_sub
          rw [if_neg (nI_pos (by omega)), nI_clamp (by omega)]
          omega
        obtain ⟨j1, j2, j3⟩ := give_run (n := n) (be := be) (we := we) (b := b) (s0 := s) (by omega) (s + 2) (-1000000000) (nI s) (Or.inr ⟨s, Nat.le_refl _, Nat.and_self _, rfl⟩) hmu
        rw [hv] at j1 j2 j3
        exact ⟨fun p hp hw => j1 p s rfl hp (by rw [← hp]; exact Nat.and_le_right) (Nat.le_refl _) hw, j3⟩
      · obtain ⟨j1, j2⟩ := i2 s (by omega)
        have hb : ∀ p, upd b t v (s ^^^ (s &&& p)) = b (s ^^^ (s &&& p)) := fun p => pk_un (by have := @msk_le s p; omega)
        exact ⟨fun p hp hw => by rw [← hb]; exact j1 p hp hw, j2.imp id (fun ⟨p, q1, q2, q3⟩ => ⟨p, q1, q2, by rw [← hb]; exact q3⟩)⟩
theorem give_spec {n : Nat} {be we : Nat → Int32} (hn : n ≤ 8) : (∀ s, s < 2 ^ n → isG be we s (K_give n be we s)) ∧ ∀ s, 2 ^ n ≤ s → K_give n be we s = be s := by
  have h1 := Nat.two_pow_pos n
  have h2 : 2 ^ n ≤ 2 ^ 8 := Nat.pow_le_pow_right (by decide) hn
  have h := give_out (n := n) (be := be) (we := we) (2 ^ n) (2 ^ n + 2) be (by omega) (by omega)
  obtain ⟨q, hq⟩ : ∃ q, 2 ^ n = q + 1 := ⟨2 ^ n - 1, by omega⟩
  have e : nI (2 ^ n) - 1 = nI (2 ^ n - 1) := by rw [hq, nI_pred, show q + 1 - 1 = q from rfl]
  rw [e] at h
  exact ⟨h.2, h.1⟩
end
