/-! The line of a school (reference): all its tables. -/
noncomputable section
theorem Rv_congr {S : Sch} {wv : Nat → Nat → Nat} {bs bm bs' bm' : Nat → Int32} {k f : Nat} {s m z : Int32} (h : ∀ q, q < 17 * k → bs q = bs' q ∧ bm q = bm' q) (h16 : S.1 ≤ 16) (hr : Rv S wv bs bm k f s m z) : Rv S wv bs' bm' k f s m z := by
  refine ⟨hr.1, hr.2.1, fun h1 l' h2 => pick_congr (fun n hn => ?_) (hr.2.2 h1 l' h2)⟩
  have h3 := h (17 * l' + (f + n)) (by have := hn.2.2; omega)
  unfold bsI bmN
  rw [h3.1, h3.2]
  exact ⟨rfl, rfl⟩
theorem Rb_of {S : Sch} {wv : Nat → Nat → Nat} {bs bm : Nat → Int32} {k f : Nat} {s m z : Int32} (hf : f ≤ S.1) (hwb : ∀ f n, vld S S.1 f n → wv f n ≤ 5049) (hk : k ≤ 6) (hrow : 1 ≤ k → ∀ f, f ≤ S.1 → Rb bs bm (k - 1) f) (h : Rv S wv bs bm k f s m z) : (∃ q, q ≤ k ∧ m = nI q) ∧ -1 ≤ s.toInt ∧ s.toInt ≤ 5049 * k := by
  have m1 : (-1 : Int32).toInt = -1 := by decide
  have z0 : (0 : Int32).toInt = 0 := by decide
  by_cases e : f = S.1
  · obtain ⟨a, b⟩ := h.1 e
    rw [a, z0]
    exact ⟨⟨0, Nat.zero_le _, b⟩, by omega, by omega⟩
  · by_cases c : k = 0
    · obtain ⟨a, b⟩ := h.2.1 (by omega) c
      rw [a, m1]
      exact ⟨⟨0, Nat.zero_le _, b⟩, by omega, by omega⟩
    · obtain ⟨l', rfl⟩ : ∃ l', k = l' + 1 := ⟨k - 1, by omega⟩
      rcases h.2.2 (by omega) l' rfl with ⟨a, b, -⟩ | ⟨q, q1, q2, q3, q4, q5, -⟩
      · rw [a, m1]
        exact ⟨⟨0, Nat.zero_le _, b⟩, by omega, by omega⟩
      · have hr := hrow (by omega) (f + q) q1.2.2
        rw [show l' + 1 - 1 = l' from rfl] at hr
        have hw := hwb f q q1
        dsimp only at q3 q4
        refine ⟨⟨_, ?_, q5⟩, ?_, ?_⟩
        · have := hr.2.1
          show 1 + bmN bm l' (f + q) ≤ l' + 1
          omega
        · rw [q4]
          omega
        · rw [q4]
          have := hr.2.2.2
          omega
theorem cuts_sem {S : Sch} {k0 : Nat} {g va bs bm bz : Nat → Int32} {wv : Nat → Nat → Nat} (hw : wS S) (hk6 : k0 ≤ 6) (hst : ∀ G f n, vld S S.1 f n → (K_m_stretch S f n G va).1 = nI (wv f n) ∧ wv f n ≤ 5049) :
    ∀ k f, k ≤ k0 → f ≤ S.1 → Rb (K_m_cuts S k0 g va bs bm bz).2.1 (K_m_cuts S k0 g va bs bm bz).2.2.1 k f ∧ Rv S wv (K_m_cuts S k0 g va bs bm bz).2.1 (K_m_cuts S k0 g va bs bm bz).2.2.1 k f ((K_m_cuts S k0 g va bs bm bz).2.1 (17 * k + f)) ((K_m_cuts S k0 g va bs bm bz).2.2.1 (17 * k + f)) ((K_m_cuts S k0 g va bs bm bz).2.2.2 (17 * k + f)) := by
  have h16 := hw.1
  have hwb : ∀ f n, vld S S.1 f n → wv f n ≤ 5049 := fun f n h => (hst g f n h).2
  have inner : ∀ (k : Nat) (z : (Nat → Int32) × (Nat → Int32) × (Nat → Int32) × (Nat → Int32)), k ≤ 6 → (∀ k1 f, k1 < k → f ≤ S.1 → Rb z.2.1 z.2.2.1 k1 f) → ∀ w, w = fo (F_m_cuts_19 S k0 g va bs bm bz k z) (S.1 + 1) 0 (z.1, z.2.1, z.2.2.1, z.2.2.2) → (∀ q, q < 17 * k → w.2.1 q = z.2.1 q ∧ w.2.2.1 q = z.2.2.1 q ∧ w.2.2.2 q = z.2.2.2 q) ∧ ∀ f, f ≤ S.1 → Rb w.2.1 w.2.2.1 k f ∧ Rv S wv w.2.1 w.2.2.1 k f (w.2.1 (17 * k + f)) (w.2.2.1 (17 * k + f)) (w.2.2.2 (17 * k + f)) := by
    intro k z hk hz w hwz
    have h := fo_inv (F := F_m_cuts_19 S k0 g va bs bm bz k z) (fun k' w => (∀ q, q < 17 * k → w.2.1 q = z.2.1 q ∧ w.2.2.1 q = z.2.2.1 q ∧ w.2.2.2 q = z.2.2.2 q) ∧ ∀ f, f ≤ S.1 → S.1 < f + k' → Rb w.2.1 w.2.2.1 k f ∧ Rv S wv w.2.1 w.2.2.1 k f (w.2.1 (17 * k + f)) (w.2.2.1 (17 * k + f)) (w.2.2.2 (17 * k + f))) (S.1 + 1) 0 (z.1, z.2.1, z.2.2.1, z.2.2.2) ⟨fun _ _ => ⟨rfl, rfl, rfl⟩, fun f h1 h2 => by omega⟩ (fun k' w _ hk' hw' => by
      obtain ⟨w1, w2⟩ := hw'
      have hk' : k' ≤ S.1 := by omega
      have hrow : 1 ≤ k → ∀ f, f ≤ S.1 → Rb w.2.1 w.2.2.1 (k - 1) f := by
        intro h1 f hf
        have h2 := hz (k - 1) f (by omega) hf
        have h3 := w1 (17 * (k - 1) + f) (by omega)
        unfold Rb bmN bsI at h2 ⊢
        rw [h3.1, h3.2.1]
        exact h2
      obtain ⟨G', s, m, zz, e1, e2⟩ := cuts_row (k0 := k0) (g := g) (bs := bs) (bm := bm) (bz := bz) (z := z) (z' := w) hw hk' hk hst hrow
      rw [e1]
      have hlow : ∀ q, q < 17 * k → w.2.1 q = (upd w.2.1 (17 * k + (S.1 - k')) s) q ∧ w.2.2.1 q = (upd w.2.2.1 (17 * k + (S.1 - k')) m) q := fun q hq => ⟨(pk_un (by omega)).symm, (pk_un (by omega)).symm⟩
      refine ⟨fun q hq => ?_, fun f hf hlt => ?_⟩
      · show upd w.2.1 _ _ q = _ ∧ upd w.2.2.1 _ _ q = _ ∧ upd w.2.2.2 _ _ q = _
        rw [pk_un (by omega), pk_un (by omega), pk_un (by omega)]
        exact w1 q hq
      · show Rb (upd w.2.1 (17 * k + (S.1 - k')) s) (upd w.2.2.1 (17 * k + (S.1 - k')) m) k f ∧ Rv S wv (upd w.2.1 (17 * k + (S.1 - k')) s) (upd w.2.2.1 (17 * k + (S.1 - k')) m) k f (upd w.2.1 (17 * k + (S.1 - k')) s (17 * k + f)) (upd w.2.2.1 (17 * k + (S.1 - k')) m (17 * k + f)) (upd w.2.2.2 (17 * k + (S.1 - k')) zz (17 * k + f))
        by_cases e : f = S.1 - k'
        · obtain ⟨⟨q, b1, b2⟩, b3, b4⟩ := Rb_of hf hwb hk hrow (by rw [e]; exact e2)
          unfold Rb bmN bsI
          rw [e, pk_us, pk_us, pk_us, b2, nI_clamp (by omega)]
          refine ⟨⟨rfl, b1, b3, b4⟩, ?_⟩
          rw [← b2]
          exact Rv_congr hlow h16 e2
        · obtain ⟨c1, c2⟩ := w2 f hf (by omega)
          unfold Rb bmN bsI
          rw [pk_un (by omega), pk_un (by omega), pk_un (by omega)]
          exact ⟨c1, Rv_congr hlow h16 c2⟩)
    rw [Nat.zero_add, ← hwz] at h
    exact ⟨h.1, fun f hf => h.2 f hf (by omega)⟩
  have h := fo_inv (F := F_m_cuts_10 S k0 g va bs bm bz) (fun k z => k ≤ 7 → ∀ k1 f, k1 < k → f ≤ S.1 → Rb z.2.1 z.2.2.1 k1 f ∧ Rv S wv z.2.1 z.2.2.1 k1 f (z.2.1 (17 * k1 + f)) (z.2.2.1 (17 * k1 + f)) (z.2.2.2 (17 * k1 + f))) (k0 + 1) 0 (g, bs, bm, bz) (fun _ k1 f h => absurd h (Nat.not_lt_zero _)) (fun k z _ _ hz hk7 k1 f hk1 hf => by
    have hz := hz (by omega)
    obtain ⟨i1, i2⟩ := inner k z (by omega) (fun k1 f h1 h2 => (hz k1 f h1 h2).1) _ rfl
    unfold F_m_cuts_10
    generalize fo (F_m_cuts_19 S k0 g va bs bm bz k z) (S.1 + 1) 0 (z.1, z.2.1, z.2.2.1, z.2.2.2) = w at i1 i2
    show Rb w.2.1 w.2.2.1 k1 f ∧ Rv S wv w.2.1 w.2.2.1 k1 f (w.2.1 (17 * k1 + f)) (w.2.2.1 (17 * k1 + f)) (w.2.2.2 (17 * k1 + f))
    by_cases e : k1 = k
    · subst e; exact i2 f hf
    · obtain ⟨a, b⟩ := hz k1 f (by omega) hf
      obtain ⟨q1, q2, q3⟩ := i1 (17 * k1 + f) (by omega)
      unfold Rb bmN bsI at a ⊢
      rw [q1, q2, q3]
      exact ⟨a, Rv_congr (fun q hq => ⟨(i1 q (by omega)).1.symm, (i1 q (by omega)).2.1.symm⟩) h16 b⟩)
  rw [Nat.zero_add] at h
  intro k f hk hf
  exact h (by omega) k f (by omega) hf
end
