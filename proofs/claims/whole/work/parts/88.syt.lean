/-! The line of a school: the tables of both sides. -/
noncomputable section
/-- place f with left classes at most: what both tables say of it -/
def relT (be bs bm : Nat → Int32) (left f : Nat) : Prop :=
  (∀ j, j ≤ left → tb be j f ≤ bsI bs left f) ∧ (bsI bs left f = -1 ∨ (0 ≤ bsI bs left f ∧ bmN bm left f ≤ left ∧ tb be (bmN bm left f) f = bsI bs left f ∧ ∀ j, j < bmN bm left f → tb be j f < bsI bs left f))
theorem line_rel {S : Sch} {k0 : Nat} {wv : Nat → Nat → Nat} {be bs bm bz : Nat → Int32} (hw : wS S) (hk6 : k0 ≤ 6) (hT : isTB S S.1 k0 wv be) (hR : ∀ k f, k ≤ k0 → f ≤ S.1 → Rb bs bm k f ∧ Rv S wv bs bm k f (bs (17 * k + f)) (bm (17 * k + f)) (bz (17 * k + f))) :
    ∀ left, left ≤ k0 → ∀ f, f ≤ S.1 → relT be bs bm left f ∧ ∀ l', left = l' + 1 → f < S.1 → 0 ≤ bsI bs left f → ∃ n, vld S S.1 f n ∧ bz (17 * left + f) = nI n ∧ 1 ≤ bmN bm left f ∧ 0 ≤ bsI bs l' (f + n) ∧ bsI bs l' (f + n) = tb be (bmN bm left f - 1) (f + n) ∧ bmN bm l' (f + n) = bmN bm left f - 1 ∧ tb be (bmN bm left f) f = (wv f n : Int) + tb be (bmN bm left f - 1) (f + n) ∧ ∀ n', vld S S.1 f n' → n' < n → ¬ (0 ≤ tb be (bmN bm left f - 1) (f + n') ∧ tb be (bmN bm left f) f = (wv f n' : Int) + tb be (bmN bm left f - 1) (f + n')) := by
  obtain ⟨hle, hle1, hle2⟩ := le_cl hw
  have m1 : (-1 : Int32).toInt = -1 := by decide
  have z0 : (0 : Int32).toInt = 0 := by decide
  intro left
  induction left with
  | zero =>
    intro hk f hf
    obtain ⟨⟨b1, b2, b3, b4⟩, r1, r2, -⟩ := hR 0 f hk hf
    have ht := hT.1 f hf
    refine ⟨?_, fun l' h => by omega⟩
    by_cases e : f = S.1
    · rw [if_pos e] at ht
      have hs : bsI bs 0 f = 0 := by unfold bsI; rw [(r1 e).1, z0]
      refine ⟨fun j hj => by rw [show j = 0 by omega, ht, hs]; exact Int.le_refl _, Or.inr ⟨by omega, b2, ?_, fun j hj => by omega⟩⟩
      rw [show bmN bm 0 f = 0 by omega, ht, hs]
    · rw [if_neg e] at ht
      have hs : bsI bs 0 f = -1 := by unfold bsI; rw [(r2 (by omega) rfl).1, m1]
      exact ⟨fun j hj => by rw [show j = 0 by omega, ht, hs]; exact Int.le_refl _, Or.inl hs⟩
  | succ left ih =>
    intro hk f hf
    obtain ⟨⟨b1, b2, b3, b4⟩, r1, -, r3⟩ := hR (left + 1) f hk hf
    have ht := hT.1 f hf
    by_cases e : f = S.1
    · rw [if_pos e] at ht
      have hs : bsI bs (left + 1) f = 0 := by unfold bsI; rw [(r1 e).1, z0]
      have hm : bmN bm (left + 1) f = 0 := by unfold bmN; rw [(r1 e).2]; rfl
      have hneg : ∀ j, j < k0 → tb be (j + 1) f = -1 := fun j hj => by
        rcases hT.2.2.2 j f hj hf with h | ⟨n, hn, -⟩
        · exact h
        · have := hn.1; have := hn.2.2; omega
      refine ⟨⟨fun j hj => ?_, Or.inr ⟨by omega, by omega, by rw [hm, ht, hs], fun j hj => by omega⟩⟩, fun l' _ h => by omega⟩
      rw [hs]
      by_cases c : j = 0
      · rw [c, ht]; exact Int.le_refl _
      · obtain ⟨i, rfl⟩ : ∃ i, j = i + 1 := ⟨j - 1, by omega⟩
        rw [hneg i (by omega)]
        decide
    · rw [if_neg e] at ht
      have hfl : f < S.1 := by omega
      have ihf := fun n (hn : vld S S.1 f n) => (ih (by omega) (f + n) hn.2.2).1
      rcases r3 hfl left rfl with ⟨p1, p2, p3⟩ | ⟨n, n1, n2, n3, n4, n5, n6, n7, n8⟩
      · have hs : bsI bs (left + 1) f = -1 := by unfold bsI; rw [p1, m1]
        refine ⟨⟨fun j hj => ?_, Or.inl hs⟩, fun l' _ _ h => by omega⟩
        rw [hs]
        by_cases c : j = 0
        · rw [c, ht]; exact Int.le_refl _
        · obtain ⟨i, rfl⟩ : ∃ i, j = i + 1 := ⟨j - 1, by omega⟩
          rcases hT.2.2.2 i f (by omega) hf with h | ⟨q, hq, q1, q2⟩
          · rw [h]; exact Int.le_refl _
          · have h1 := p3 q hq (by have := hq.2.1; have := (mo_cl hw).2.2.1; omega)
            have h2 := (ihf q hq).1 i (by omega)
            dsimp only at h1
            omega
      · dsimp only at n3 n4 n5 n7 n8
        have hbq := (hR left (f + n) (by omega) n1.2.2).1
        have hm : bmN bm (left + 1) f = 1 + bmN bm left (f + n) := by
          have h1 := n5
          unfold bmN at h1 ⊢
          rw [h1]
          have h2 : bmN bm left (f + n) ≤ 6 := by have := hbq.2.1; omega
          unfold bmN at h2
          rw [nI_clamp (by omega)]
        have hs : bsI bs (left + 1) f = (wv f n : Int) + bsI bs left (f + n) := n4
        obtain ⟨i1, i2⟩ := ihf n n1
        rcases i2 with i2 | ⟨j1, j2, j3, j4⟩
        · omega
        · have hup : ∀ j, j ≤ left + 1 → tb be j f ≤ bsI bs (left + 1) f := by
            intro j hj
            by_cases c : j = 0
            · rw [c, ht]; omega
            · obtain ⟨i, rfl⟩ : ∃ i, j = i + 1 := ⟨j - 1, by omega⟩
              rcases hT.2.2.2 i f (by omega) hf with h | ⟨q, hq, q1, q2⟩
              · rw [h]; omega
              · have h2 := (ihf q hq).1 i (by omega)
                have h3 := n7 q hq (by have := hq.2.1; have := (mo_cl hw).2.2.1; omega) (by omega)
                omega
          have ht1 := hT.2.2.1 (bmN bm left (f + n)) f n (by omega) n1 (by omega)
          have hup1 := hup (bmN bm left (f + n) + 1) (by omega)
          have htm : tb be (bmN bm (left + 1) f) f = bsI bs (left + 1) f := by
            rw [hm, Nat.add_comm 1]
            omega
          have hlow : ∀ j, j < bmN bm (left + 1) f → tb be j f < bsI bs (left + 1) f := by
            intro j hj
            refine Classical.byContradiction (fun hc => ?_)
            have hje : tb be j f = bsI bs (left + 1) f := by have := hup j (by omega); omega
            by_cases c : j = 0
            · rw [c, ht] at hje; omega
            · obtain ⟨i, rfl⟩ : ∃ i, j = i + 1 := ⟨j - 1, by omega⟩
              rcases hT.2.2.2 i f (by omega) hf with h | ⟨q, hq, q1, q2⟩
              · omega
              · obtain ⟨h2, h2'⟩ := ihf q hq
                have h3 := n7 q hq (by have := hq.2.1; have := (mo_cl hw).2.2.1; omega) (by have := h2 i (by omega); omega)
                have h4 := h2 i (by omega)
                rcases h2' with h5 | ⟨h5, h6, h7, h8⟩
                · omega
                · have h9 : bsI bs left (f + q) = tb be i (f + q) := by omega
                  have h10 : bmN bm left (f + q) ≤ i := Nat.le_of_not_lt (fun hlt => by have := h8 i hlt; omega)
                  omega
          refine ⟨⟨hup, Or.inr ⟨by omega, by omega, htm, hlow⟩⟩, fun l' hl' _ _ => ?_⟩
          obtain rfl : left = l' := by omega
          have hm1 : bmN bm (left + 1) f - 1 = bmN bm left (f + n) := by omega
          refine ⟨n, n1, n6, by omega, n3, by rw [hm1]; exact j3.symm, hm1.symm, by rw [htm, hm1]; omega, fun n' hn' hlt hcc => ?_⟩
          rw [hm1, htm] at hcc
          obtain ⟨c1, c2⟩ := hcc
          obtain ⟨h2, h2'⟩ := ihf n' hn'
          have h4 := h2 (bmN bm left (f + n)) (by omega)
          have h3 := n8 n' hn' hlt (by omega)
          rcases h2' with h5 | ⟨h5, h6, h7, h8⟩
          · omega
          · have h9 : bmN bm left (f + n') ≤ bmN bm left (f + n) := Nat.le_of_not_lt (fun hl => by have := h8 _ hl; omega)
            omega
end
