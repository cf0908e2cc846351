/-! The line of a school (reference): what its tables hold. -/
noncomputable section
def bsI (bs : Nat → Int32) (left f : Nat) : Int := (bs (17 * left + f)).toInt
def bmN (bm : Nat → Int32) (left f : Nat) : Nat := (bm (17 * left + f)).toNatClampNeg
/-- the best first class among those shorter than lim: its number of classes and its size -/
def pick (S : Sch) (L f : Nat) (w : Nat → Nat) (s0 : Nat → Int) (c0 : Nat → Nat) (lim : Nat) (s m z : Int32) : Prop :=
  (s = -1 ∧ m = 0 ∧ ∀ n, vld S L f n → n < lim → s0 n < 0) ∨
  ∃ n, vld S L f n ∧ n < lim ∧ 0 ≤ s0 n ∧ s.toInt = (w n : Int) + s0 n ∧ m = nI (1 + c0 n) ∧ z = nI n ∧
    (∀ n', vld S L f n' → n' < lim → 0 ≤ s0 n' → (w n' : Int) + s0 n' < (w n : Int) + s0 n ∨ ((w n' : Int) + s0 n' = (w n : Int) + s0 n ∧ c0 n ≤ c0 n')) ∧
    ∀ n', vld S L f n' → n' < n → 0 ≤ s0 n' → (w n' : Int) + s0 n' < (w n : Int) + s0 n ∨ ((w n' : Int) + s0 n' = (w n : Int) + s0 n ∧ c0 n < c0 n')
theorem pick_skip {S : Sch} {L f : Nat} {w : Nat → Nat} {s0 : Nat → Int} {c0 : Nat → Nat} {n : Nat} {s m z : Int32} (h : pick S L f w s0 c0 n s m z) (hn : ∀ (_ : vld S L f n), s0 n < 0) : pick S L f w s0 c0 (n + 1) s m z := by
  rcases h with ⟨a, b, c⟩ | ⟨k, k1, k2, k3, k4, k5, k6, k7, k8⟩
  · refine Or.inl ⟨a, b, fun n' hv hl => ?_⟩
    by_cases e : n' = n
    · subst e; exact hn hv
    · exact c n' hv (by omega)
  · refine Or.inr ⟨k, k1, by omega, k3, k4, k5, k6, fun n' hv hl h0 => ?_, k8⟩
    by_cases e : n' = n
    · subst e; have := hn hv; omega
    · exact k7 n' hv (by omega) h0
theorem lcut_step {S : Sch} {a0 f n L : Nat} {g va bs bm bz : Nat → Int32} {w : Nat → Nat} {s0 : Nat → Int} {c0 : Nat → Nat} (hv : vld S L f n) (hL : L ≤ 16) (hw : (K_m_stretch S f n g va).1 = nI (w n)) (hwb : ∀ n, vld S L f n → w n ≤ 5049) (hs : (bs (a0 - 17 + n)).toInt = s0 n) (hsb : ∀ n, vld S L f n → -1 ≤ s0 n ∧ s0 n ≤ 30294) (hc : bm (a0 - 17 + n) = nI (c0 n)) (hcb : ∀ n, vld S L f n → c0 n ≤ 6) (h : pick S L f w s0 c0 n (bs a0) (bm a0) (bz a0)) :
    ∃ g' s m z, K_m_cut S a0 f n g va bs bm bz = (g', upd bs a0 s, upd bm a0 m, upd bz a0 z) ∧ pick S L f w s0 c0 (n + 1) s m z := by
  have hself : ∀ (g' : Nat → Int32), (g', bs, bm, bz) = (g', upd bs a0 (bs a0), upd bm a0 (bm a0), upd bz a0 (bz a0)) := fun g' => by rw [upd_same, upd_same, upd_same]
  have z0 : (0 : Int32).toInt = 0 := by decide
  have hwn := hwb n hv
  have hsn := hsb n hv
  have hcn := hcb n hv
  unfold K_m_cut
  have hlt0 : bs (a0 - 17 + n) < (0 : Int32) ↔ s0 n < 0 := by rw [lt_toInt, hs, z0]
  by_cases c : s0 n < 0
  · rw [if_pos (hlt0.mpr c)]
    exact ⟨g, _, _, _, hself g, pick_skip h (fun _ => c)⟩
  · rw [if_neg (fun h => c (hlt0.mp h))]
    have hwI : (nI (w n)).toInt = (w n : Int) := nI_toInt (by omega)
    have hsum : ((K_m_stretch S f n g va).1 + bs (a0 - 17 + n)).toInt = (w n : Int) + s0 n := by
      rw [hw, addI (by rw [hwI, hs]; omega) (by rw [hwI, hs]; omega), hwI, hs]
    have hcl : (1 : Int32) + bm (a0 - 17 + n) = nI (1 + c0 n) := by rw [hc, show (1 : Int32) = nI 1 from rfl, nI_add]
    rw [hcl]
    generalize (K_m_stretch S f n g va).1 + bs (a0 - 17 + n) = sum at hsum
    generalize (K_m_stretch S f n g va).2 = g'
    rcases h with ⟨a, b, d⟩ | ⟨k, k1, k2, k3, k4, k5, k6, k7, k8⟩
    · have e1 : ¬ sum < bs a0 := by rw [lt_toInt, hsum, a, show (-1 : Int32).toInt = -1 from by decide]; omega
      have e2 : ¬ sum = bs a0 := by rw [← Int32.toInt_inj, hsum, a, show (-1 : Int32).toInt = -1 from by decide]; omega
      rw [if_neg e1, if_neg e2]
      refine ⟨g', sum, _, _, rfl, Or.inr ⟨n, hv, by omega, by omega, hsum, rfl, rfl, fun n' hv' hl h0 => ?_, fun n' hv' hl h0 => ?_⟩⟩
      · by_cases e : n' = n
        · subst e; exact Or.inr ⟨rfl, Nat.le_refl _⟩
        · have := d n' hv' (by omega); omega
      · have := d n' hv' hl; omega
    · have hwk := hwb k k1
      have hsk := hsb k k1
      have hck := hcb k k1
      have hlt : sum < bs a0 ↔ (w n : Int) + s0 n < (w k : Int) + s0 k := by rw [lt_toInt, hsum, k4]
      have heq : sum = bs a0 ↔ (w n : Int) + s0 n = (w k : Int) + s0 k := by rw [← Int32.toInt_inj, hsum, k4]
      have hcc : nI (1 + c0 n) < bm a0 ↔ c0 n < c0 k := by
        rw [k5, nI_lt_iff (by omega) (by omega)]
        omega
      by_cases e1 : (w n : Int) + s0 n < (w k : Int) + s0 k
      · rw [if_pos (hlt.mpr e1)]
        refine ⟨g', _, _, _, hself g', Or.inr ⟨k, k1, by omega, k3, k4, k5, k6, fun n' hv' hl h0 => ?_, k8⟩⟩
        by_cases e : n' = n
        · subst e; exact Or.inl e1
        · exact k7 n' hv' (by omega) h0
      · rw [if_neg (fun h => e1 (hlt.mp h))]
        have upd2 : (c0 n < c0 k ∨ ¬ (w n : Int) + s0 n = (w k : Int) + s0 k) → pick S L f w s0 c0 (n + 1) sum (nI (1 + c0 n)) (nI n) := by
          intro hb
          refine Or.inr ⟨n, hv, by omega, by omega, hsum, rfl, rfl, fun n' hv' hl h0 => ?_, fun n' hv' hl h0 => ?_⟩
          · by_cases e : n' = n
            · subst e; exact Or.inr ⟨rfl, Nat.le_refl _⟩
            · have := k7 n' hv' (by omega) h0; omega
          · have := k7 n' hv' (by omega) h0; omega
        by_cases e2 : (w n : Int) + s0 n = (w k : Int) + s0 k
        · rw [if_pos (heq.mpr e2)]
          by_cases e3 : c0 n < c0 k
          · rw [if_pos (hcc.mpr e3)]
            exact ⟨g', sum, _, _, rfl, upd2 (Or.inl e3)⟩
          · rw [if_neg (fun h => e3 (hcc.mp h))]
            refine ⟨g', _, _, _, hself g', Or.inr ⟨k, k1, by omega, k3, k4, k5, k6, fun n' hv' hl h0 => ?_, k8⟩⟩
            by_cases e : n' = n
            · subst e; exact Or.inr ⟨e2, by omega⟩
            · exact k7 n' hv' (by omega) h0
        · rw [if_neg (fun h => e2 (heq.mp h))]
          exact ⟨g', sum, _, _, rfl, upd2 (Or.inr e2)⟩
end
