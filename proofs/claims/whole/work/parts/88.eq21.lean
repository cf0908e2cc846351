/-! Both sides answer alike: the weeks (one class, one week). -/
noncomputable section
/-- what is still there of a class after its draws, and the number drawn last -/
def DR (S : Sch) (st : Int32) (xv v : Int32) : Int32 × Int32 := fo (fun k (z : Int32 × Int32) => if K_bit z.2 (nI k) = 0 then z else if (K_draw z.1).1 < K_stay S st (S.2.2 0 k) then ((K_draw z.1).2, z.2) else ((K_draw z.1).2, z.2 &&& (((1 : Int32) <<< (nI k &&& 31)) ^^^ (-1 : Int32)))) S.1 0 (xv, v)
theorem shrink_DR (S : Sch) (C : Les) (k0 : Nat) (xv : Int32) (si : Nat → Int32) : (K_shrink S C k0 xv si).1 = (DR S (C 3) xv (si k0)).1 ∧ (K_shrink S C k0 xv si).2 k0 = (DR S (C 3) xv (si k0)).2 ∧ ∀ q, q ≠ k0 → (K_shrink S C k0 xv si).2 q = si q := by
  have key := fo_rel (F := F_shrink_3 S C k0 xv si) (G := fun k (z : Int32 × Int32) => if K_bit z.2 (nI k) = 0 then z else if (K_draw z.1).1 < K_stay S (C 3) (S.2.2 0 k) then ((K_draw z.1).2, z.2) else ((K_draw z.1).2, z.2 &&& (((1 : Int32) <<< (nI k &&& 31)) ^^^ (-1 : Int32)))) (fun _ (a : Int32 × (Nat → Int32)) (b : Int32 × Int32) => a.1 = b.1 ∧ a.2 k0 = b.2 ∧ ∀ q, q ≠ k0 → a.2 q = si q) S.1 0 (xv, si) (xv, si k0) ⟨rfl, rfl, fun _ _ => rfl⟩ (fun k a b _ _ ⟨h1, h2, h3⟩ => by
    unfold F_shrink_3
    have eb : ((a.2 k0 >>> (nI k &&& 31)) &&& (1 : Int32)) = K_bit (a.2 k0) (nI k) := rfl
    rw [eb, h1, h2]
    by_cases c1 : K_bit b.2 (nI k) = 0
    · rw [if_pos c1, if_pos c1]
      exact ⟨rfl, h2, h3⟩
    · rw [if_neg c1, if_neg c1]
      by_cases c2 : (K_draw b.1).1 < K_stay S (C 3) (S.2.2 0 k)
      · rw [if_pos c2, if_pos c2]
        exact ⟨rfl, h2, h3⟩
      · rw [if_neg c2, if_neg c2]
        exact ⟨rfl, pk_us, fun q hq => by show upd a.2 k0 _ q = si q; rw [pk_un hq]; exact h3 q hq⟩)
  exact key
theorem draws_DR (S : Sch) (P : Pln) (sd : Int32) (w : Nat) (g vs ve : Nat → Int32) (k : Nat) (z : (Nat → Int32) × (Nat → Int32) × (Nat → Int32)) (k' : Nat) (z' : (Nat → Int32) × (Nat → Int32)) : (fo (F_m_passes_85 S P sd w g vs ve k z k' z') S.1 0 (z'.1, z'.2)).1 27 = (DR S (P.2 k' 3) (z'.1 27) (z'.2 k')).1 ∧ (fo (F_m_passes_85 S P sd w g vs ve k z k' z') S.1 0 (z'.1, z'.2)).2 k' = (DR S (P.2 k' 3) (z'.1 27) (z'.2 k')).2 ∧ ∀ q, q ≠ k' → (fo (F_m_passes_85 S P sd w g vs ve k z k' z') S.1 0 (z'.1, z'.2)).2 q = z'.2 q := by
  have key := fo_rel (F := F_m_passes_85 S P sd w g vs ve k z k' z') (G := fun d (z : Int32 × Int32) => if K_bit z.2 (nI d) = 0 then z else if (K_draw z.1).1 < K_stay S (P.2 k' 3) (S.2.2 0 d) then ((K_draw z.1).2, z.2) else ((K_draw z.1).2, z.2 &&& (((1 : Int32) <<< (nI d &&& 31)) ^^^ (-1 : Int32)))) (fun _ (a : (Nat → Int32) × (Nat → Int32)) (b : Int32 × Int32) => a.1 27 = b.1 ∧ a.2 k' = b.2 ∧ ∀ q, q ≠ k' → a.2 q = z'.2 q) S.1 0 (z'.1, z'.2) (z'.1 27, z'.2 k') ⟨rfl, rfl, fun _ _ => rfl⟩ (fun d a b _ _ ⟨h1, h2, h3⟩ => by
    unfold F_m_passes_85
    have eb : ((a.2 k' >>> (nI d &&& 31)) &&& (1 : Int32)) = K_bit (a.2 k') (nI d) := rfl
    have e1 : (K_m_drawn a.1).1 = (K_draw (a.1 27)).1 := rfl
    have e2 : (K_m_drawn a.1).2 27 = (K_draw (a.1 27)).2 := (pk_us : upd a.1 27 _ 27 = _)
    rw [eb, e1, h2, h1]
    by_cases c1 : K_bit b.2 (nI d) = 0
    · rw [if_pos c1, if_pos c1]
      exact ⟨h1, h2, h3⟩
    · rw [if_neg c1, if_neg c1]
      by_cases c2 : (K_draw b.1).1 < K_stay S (P.2 k' 3) (S.2.2 0 d)
      · rw [if_pos c2, if_pos c2]
        exact ⟨by show (K_m_drawn a.1).2 27 = _; rw [e2, h1], h2, h3⟩
      · rw [if_neg c2, if_neg c2]
        exact ⟨by show (K_m_drawn a.1).2 27 = _; rw [e2, h1], pk_us, fun q hq => by show upd a.2 k' _ q = z'.2 q; rw [pk_un hq]; exact h3 q hq⟩)
  exact key
/-- nobody sits: nothing is drawn -/
theorem DR_0 (S : Sch) (st xv : Int32) (hn : S.1 ≤ 16) : DR S st xv 0 = (xv, 0) := by
  unfold DR
  refine fo_inv (F := fun k (z : Int32 × Int32) => if K_bit z.2 (nI k) = 0 then z else if (K_draw z.1).1 < K_stay S st (S.2.2 0 k) then ((K_draw z.1).2, z.2) else ((K_draw z.1).2, z.2 &&& (((1 : Int32) <<< (nI k &&& 31)) ^^^ (-1 : Int32)))) (fun _ z => z = (xv, 0)) S.1 0 (xv, 0) rfl (fun k z _ hk h => ?_)
  have h0 : K_bit (0 : Int32) (nI k) = 0 := (nbit (v := 0) (by decide) (by omega)).mpr (Nat.zero_testBit k)
  rw [h]
  show (if K_bit (0 : Int32) (nI k) = 0 then ((xv, 0) : Int32 × Int32) else _) = (xv, 0)
  rw [if_pos h0]
theorem DR_inS {S : Sch} {st xv v : Int32} (hn : S.1 ≤ 16) (h : inS S v) : inS S (DR S st xv v).2 := by
  unfold DR
  refine fo_inv (F := fun k (z : Int32 × Int32) => if K_bit z.2 (nI k) = 0 then z else if (K_draw z.1).1 < K_stay S st (S.2.2 0 k) then ((K_draw z.1).2, z.2) else ((K_draw z.1).2, z.2 &&& (((1 : Int32) <<< (nI k &&& 31)) ^^^ (-1 : Int32)))) (fun _ z => inS S z.2) S.1 0 (xv, v) h (fun k z _ hk h => ?_)
  show inS S (if K_bit z.2 (nI k) = 0 then z else if (K_draw z.1).1 < K_stay S st (S.2.2 0 k) then ((K_draw z.1).2, z.2) else ((K_draw z.1).2, z.2 &&& (((1 : Int32) <<< (nI k &&& 31)) ^^^ (-1 : Int32)))).2
  split
  · exact h
  · split
    · exact h
    · exact inS_and hn h _
end
