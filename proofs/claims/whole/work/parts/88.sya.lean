/-! The reference: a teacher who is ill (printed by sym.py). -/
noncomputable section
theorem lost_0 {g : Nat → Int32} {v : Int32} (h : v = 0 := by rfl) : (upd g 21 v) 21 = nI ((upd g 21 v) 21).toNatClampNeg ∧ ((upd g 21 v) 21).toNatClampNeg ≤ 0 := by
  subst h
  rw [pk_us]
  exact ⟨rfl, Nat.le_refl _⟩
theorem lost_up {g : Nat → Int32} {k : Nat} (h : g 21 = nI (g 21).toNatClampNeg ∧ (g 21).toNatClampNeg ≤ k) (hk : k < 100) : (upd g 21 (g 21 + (1 : Int32))) 21 = nI ((upd g 21 (g 21 + (1 : Int32))) 21).toNatClampNeg ∧ ((upd g 21 (g 21 + (1 : Int32))) 21).toNatClampNeg ≤ k + 1 := by
  rw [pk_us]
  obtain ⟨h1, h2⟩ := h
  generalize (g 21).toNatClampNeg = n at h1 h2
  rw [h1, nI_1, nI_clamp (by omega)]
  exact ⟨rfl, by omega⟩
theorem lost_st {g : Nat → Int32} {k : Nat} (h : g 21 = nI (g 21).toNatClampNeg ∧ (g 21).toNatClampNeg ≤ k) : g 21 = nI (g 21).toNatClampNeg ∧ (g 21).toNatClampNeg ≤ k + 1 := ⟨h.1, by omega⟩

section
variable {Γ : ex_G} {σ : ex_S} {x q a p y : Nat} {S : Sch} {T : Tol} {P : Pln} {g A : Nat → Int32}
def F_m_loses_28 (S : Sch) (P : Pln) (tc : Int32) (g : Nat → Int32) (v_lostOnes : Nat → Int32) (k : Nat) (z : (Nat → Int32) × (Nat → Int32)) : Nat → (Int32 × Int32) → (Int32 × Int32) := fun k' z' => if (((P.2 k' 5) >>> ((nI k) &&& 31)) &&& (1 : Int32)) = (1 : Int32) then (if z'.1 = (0 : Int32) then (if (P.2 k' 1) = tc then (if z'.2 = (0 : Int32) then (if (P.2 k' 1) = tc then ((1 : Int32), (0 : Int32)) else ((1 : Int32), (1 : Int32))) else ((1 : Int32), (1 : Int32))) else (if z'.2 = (0 : Int32) then (if (P.2 k' 1) = tc then ((0 : Int32), (0 : Int32)) else ((0 : Int32), (1 : Int32))) else ((0 : Int32), (1 : Int32)))) else (if z'.2 = (0 : Int32) then (if (P.2 k' 1) = tc then ((1 : Int32), (0 : Int32)) else ((1 : Int32), (1 : Int32))) else ((1 : Int32), (1 : Int32)))) else (if z'.1 = (0 : Int32) then (if z'.2 = (0 : Int32) then ((0 : Int32), (0 : Int32)) else ((0 : Int32), (1 : Int32))) else (if z'.2 = (0 : Int32) then ((1 : Int32), (0 : Int32)) else ((1 : Int32), (1 : Int32))))
def F_m_loses_8 (S : Sch) (P : Pln) (tc : Int32) (g : Nat → Int32) (v_lostOnes : Nat → Int32) : Nat → ((Nat → Int32) × (Nat → Int32)) → ((Nat → Int32) × (Nat → Int32)) := fun k z => if ((fo (F_m_loses_28 S P tc g v_lostOnes k z) (P.1) 0 ((0 : Int32), (0 : Int32))).1) = (0 : Int32) then (z.1, z.2) else (if ((fo (F_m_loses_28 S P tc g v_lostOnes k z) (P.1) 0 ((0 : Int32), (0 : Int32))).2) = (0 : Int32) then ((upd z.1 21 ((z.1 21) + (1 : Int32))), (upd z.2 ((z.1 21).toNatClampNeg) (nI k))) else (z.1, z.2))
def K_m_loses (S : Sch) (P : Pln) (tc : Int32) (g : Nat → Int32) (v_lostOnes : Nat → Int32) : (Nat → Int32) × (Nat → Int32) := ((fo (F_m_loses_8 S P tc g v_lostOnes) (S.1) 0 ((upd g 21 (0 : Int32)), v_lostOnes)).1, (fo (F_m_loses_8 S P tc g v_lostOnes) (S.1) 0 ((upd g 21 (0 : Int32)), v_lostOnes)).2)
theorem m_loses_ok (hM : isM σ y g A) {s : Nat} (hS : mS A s S) (hs : s + 120 ≤ 4500) (hwS : wS S) (hP : mP A (970 + 40 * p) P) (hp : p < 3) (hwP : wP P) (hgo : goP S P) {v_lostOnes : Nat → Int32} (m_lostOnes : σ.2 (y + 11) = some (.inl (0, 16, v_lostOnes))) (tc : Int32) : RetX Γ m_M_loses [(.ref y), (.int (nI s)), (.int (nI p)), (.int tc)] σ y (y + 17) none (fun τ => τ.2 y = some (.inr (.inr (10, mo y ((K_m_loses S P tc g v_lostOnes).1)))) ∧ τ.2 (y + 11) = some (.inl (0, 16, (K_m_loses S P tc g v_lostOnes).2)) ∧ (∀ q, q ≠ y → q ≠ y + 11 → τ.2 q = σ.2 q)) := by
  obtain ⟨m0, m1⟩ := id hM
  have hn16 := hwS.1
  have hn5 := hwS.2.1
  have h6 := hwP.1
  unfold RetX
  generalize hQ : (fun (r : Option Value) (τ : ex_S) => r = none ∧ frm σ τ y (y + 17) ∧ (fun τ : ex_S => τ.2 y = some (.inr (.inr (10, mo y ((K_m_loses S P tc g v_lostOnes).1)))) ∧ τ.2 (y + 11) = some (.inl (0, 16, (K_m_loses S P tc g v_lostOnes).2)) ∧ (∀ q, q ≠ y → q ≠ y + 11 → τ.2 q = σ.2 q)) τ) = Q
  refine Ret.start pm_240 rfl ?_
  have fr : frm σ σ y (y + 17) := frm.rf
  have kp : (∀ q, q ≠ y → q ≠ y + 11 → σ.2 q = σ.2 q) := fun _ _ _ => rfl
  have hM : isM _ y g A := ⟨m0, m1⟩
  refine Ev.aload_n rfl rfl ?_
  refine Ev.iconst (v := 0) rfl (by decide) ?_
  refine Ev.putE rfl rfl m0 rfl rfl rfl (Nat.le_of_ble_eq_true rfl) (fun τ1 f1 q1 => ?_)
  have m0 : τ1.2 y = some (.inr (.inr (10, mo y (upd g 21 (0 : Int32))))) := q1
  have m1 := frm.cell f1 m1 (by omega)
  have m_lostOnes := frm.cell f1 m_lostOnes (by omega)
  have kp : (∀ q, q ≠ y → q ≠ y + 11 → τ1.2 q = σ.2 q) := fun q n0 n1 => (f1.2 q (by omega)).trans (kp q n0 n1)
  have fr := fr.step f1 (by omega) (by omega)
  have hM : isM _ y (upd g 21 (0 : Int32)) A := ⟨m0, m1⟩
  refine Ev.iconst (v := 0) rfl (by decide) ?_
  refine Ev.istore rfl rfl rfl ?_
  refine Ev.fg (L := [some (.ref y), some (.int (nI s)), some (.int (nI p)), some (.int tc), some (.int (nI 0)), none, none, none, none]) ?_ (gs rfl (gs rfl (gs rfl (gs rfl (gs (congrArg Value.int (rfl : (0 : Int32) = nI 0).symm) (gn (gn (gn (gn gz)))))))))
  refine lp (fun (k : Nat) (z : (Nat → Int32) × (Nat → Int32)) => (z.1 21 = nI (z.1 21).toNatClampNeg ∧ (z.1 21).toNatClampNeg ≤ k) → ∀ τ' : ex_S, frm σ τ' y (y + 17) → τ'.2 (y + 1) = some (.inl (0, 4500, A)) → τ'.2 y = some (.inr (.inr (10, mo y z.1))) → τ'.2 (y + 11) = some (.inl (0, 16, z.2)) → (∀ q, q ≠ y → q ≠ y + 11 → τ'.2 q = σ.2 q) → Ev Γ 0 0 m_M_loses 0 0 8 [some (.ref y), some (.int (nI s)), some (.int (nI p)), some (.int tc), some (.int (nI k)), none, none, none, none] [] τ' Q) (F_m_loses_8 S P tc g v_lostOnes) (S.1) (fun k z hk hx => ?_) (S.1) 0 ((upd g 21 (0 : Int32)), v_lostOnes) (by omega) ?_ (lost_0 (g := g)) τ1 fr m1 m0 m_lostOnes kp
  · skip
    intro hI
    intro τ' fr m1 m0 m_lostOnes kp
    have hM : isM _ y z.1 A := ⟨m0, m1⟩
    refine Ev.iload rfl rfl ?_
    refine Ev.aload_n rfl rfl ?_
    refine Ev.getf rfl rfl m0 rfl ?_
    refine Ev.iload_n rfl rfl ?_
    refine Ev.ialdN (k := s) rfl m1 (nq_to (a := s) rfl (by omega)) ⟨(by omega), by decide⟩ ?_
    rw [hS.1]
    refine Ev.jge (tgt := 177) rfl (by decide) (fun c16 => absurd (nI_lt hk (by omega)) c16) (fun c16 => ?_)
    refine Ev.iconst (v := 0) rfl (by decide) ?_
    refine Ev.istore rfl rfl rfl ?_
    refine Ev.iconst (v := 0) rfl (by decide) ?_
    refine Ev.istore rfl rfl rfl ?_
    refine Ev.iconst (v := 0) rfl (by decide) ?_
    refine Ev.istore rfl rfl rfl ?_
    refine Ev.fg (L := [some (.ref y), some (.int (nI s)), some (.int (nI p)), some (.int tc), some (.int (nI k)), some (.int (0 : Int32)), some (.int (0 : Int32)), some (.int (nI 0)), none]) ?_ (gs rfl (gs rfl (gs rfl (gs rfl (gs rfl (gs rfl (gs rfl (gs (congrArg Value.int (rfl : (0 : Int32) = nI 0).symm) (gn gz)))))))))
    refine lp (fun (k' : Nat) (z' : Int32 × Int32) => Ev Γ 0 0 m_M_loses 0 0 28 [some (.ref y), some (.int (nI s)), some (.int (nI p)), some (.int tc), some (.int (nI k)), some (.int z'.1), some (.int z'.2), some (.int (nI k')), none] [] τ' Q) (F_m_loses_28 S P tc g v_lostOnes k z) (P.1) (fun k' z' hk' hx' => ?_) (P.1) 0 ((0 : Int32), (0 : Int32)) (by omega) ?_
    · skip
      refine Ev.iload rfl rfl ?_
      refine Ev.aload_n rfl rfl ?_
      refine Ev.iload_n rfl rfl ?_
      refine Ev.cV1 rfl rfl m0 rfl rfl (by decide) ⟨(Nat.le_refl _), (Nat.le_refl _)⟩ (m_classes_ok hM hP hp h6) ?_
      refine Ev.jge (tgt := 137) rfl (by decide) (fun c35 => absurd (nI_lt hk' (by omega)) c35) (fun c35 => ?_)
      refine Ev.aload_n rfl rfl ?_
      refine Ev.iload_n rfl rfl ?_
      refine Ev.iload rfl rfl ?_
      refine Ev.cV2 rfl rfl m0 rfl rfl (by decide) ⟨(Nat.le_refl _), (Nat.le_refl _)⟩ (m_sitsIn_ok hM hP hp h6 k' (by omega)) ?_
      refine Ev.iload rfl rfl ?_
      refine Ev.ishr rfl ?_
      refine Ev.iconst (v := 1) rfl (by decide) ?_
      refine Ev.iand rfl ?_
      refine Ev.iconst (v := 1) rfl (by decide) ?_
      refine Ev.jne (tgt := 58) rfl (by decide) (fun c51 => ?_) (fun c51 => ?_)
      · skip
        refine Ev.iconst (v := 0) rfl (by decide) ?_
        refine Ev.istore rfl rfl rfl ?_
        refine Ev.iload rfl rfl ?_
        refine Ev.zne (tgt := 89) rfl (by decide) (fun c63 => ?_) (fun c63 => ?_)
        · skip
          refine Ev.iconst (v := 1) rfl (by decide) ?_
          refine Ev.goto (tgt := 94) rfl (by decide) ?_
          refine Ev.istore rfl rfl rfl ?_
          refine Ev.iload rfl rfl ?_
          refine Ev.zne (tgt := 124) rfl (by decide) (fun c98 => ?_) (fun c98 => ?_)
          · skip
            refine Ev.iconst (v := 1) rfl (by decide) ?_
            refine Ev.goto (tgt := 129) rfl (by decide) ?_
            refine Ev.istore rfl rfl rfl ?_
            refine Ev.iinc (d := 1) rfl rfl rfl (by decide) rfl ?_
            refine Ev.goto (tgt := 28) rfl (by decide) ?_
            have hF : (F_m_loses_28 S P tc g v_lostOnes k z) k' z' = ((1 : Int32), (1 : Int32)) := by
              unfold F_m_loses_28
              rw [if_neg c51]
              rw [if_neg c63]
              rw [if_neg c98]
            rw [hF] at hx'
            exact hx'.fg (gs rfl (gs rfl (gs rfl (gs rfl (gs rfl (gs rfl (gs rfl (gs (congrArg Value.int (show nI (k' + 1) = (nI k') + (1 : Int32) from (nq_to (a := k' + 1) (nq_add (a := k') (b := 1) rfl (rfl : (1 : Int32) = nI 1)) (by omega)).symm)) (gn gz)))))))))
          · skip
            refine Ev.iload rfl rfl ?_
            refine Ev.zeq (tgt := 128) rfl (by decide) (fun c103 => ?_) (fun c103 => absurd (by decide) c103)
            refine Ev.iconst (v := 0) rfl (by decide) ?_
            refine Ev.istore rfl rfl rfl ?_
            refine Ev.iinc (d := 1) rfl rfl rfl (by decide) rfl ?_
            refine Ev.goto (tgt := 28) rfl (by decide) ?_
            have hF : (F_m_loses_28 S P tc g v_lostOnes k z) k' z' = ((1 : Int32), (0 : Int32)) := by
              unfold F_m_loses_28
              rw [if_neg c51]
              rw [if_neg c63]
              rw [if_pos c98]
            rw [hF] at hx'
            exact hx'.fg (gs rfl (gs rfl (gs rfl (gs rfl (gs rfl (gs rfl (gs rfl (gs (congrArg Value.int (show nI (k' + 1) = (nI k') + (1 : Int32) from (nq_to (a := k' + 1) (nq_add (a := k') (b := 1) rfl (rfl : (1 : Int32) = nI 1)) (by omega)).symm)) (gn gz)))))))))
        · skip
          refine Ev.iload rfl rfl ?_
          refine Ev.zeq (tgt := 93) rfl (by decide) (fun c68 => ?_) (fun c68 => absurd (by decide) c68)
          refine Ev.iconst (v := 0) rfl (by decide) ?_
          refine Ev.istore rfl rfl rfl ?_
          refine Ev.iload rfl rfl ?_
          refine Ev.zne (tgt := 124) rfl (by decide) (fun c98 => ?_) (fun c98 => ?_)
          · skip
            refine Ev.iconst (v := 1) rfl (by decide) ?_
            refine Ev.goto (tgt := 129) rfl (by decide) ?_
            refine Ev.istore rfl rfl rfl ?_
            refine Ev.iinc (d := 1) rfl rfl rfl (by decide) rfl ?_
            refine Ev.goto (tgt := 28) rfl (by decide) ?_
            have hF : (F_m_loses_28 S P tc g v_lostOnes k z) k' z' = ((0 : Int32), (1 : Int32)) := by
              unfold F_m_loses_28
              rw [if_neg c51]
              rw [if_pos c63]
              rw [if_neg c98]
            rw [hF] at hx'
            exact hx'.fg (gs rfl (gs rfl (gs rfl (gs rfl (gs rfl (gs rfl (gs rfl (gs (congrArg Value.int (show nI (k' + 1) = (nI k') + (1 : Int32) from (nq_to (a := k' + 1) (nq_add (a := k') (b := 1) rfl (rfl : (1 : Int32) = nI 1)) (by omega)).symm)) (gn gz)))))))))
          · skip
            refine Ev.iload rfl rfl ?_
            refine Ev.zeq (tgt := 128) rfl (by decide) (fun c103 => ?_) (fun c103 => absurd (by decide) c103)
            refine Ev.iconst (v := 0) rfl (by decide) ?_
            refine Ev.istore rfl rfl rfl ?_
            refine Ev.iinc (d := 1) rfl rfl rfl (by decide) rfl ?_
            refine Ev.goto (tgt := 28) rfl (by decide) ?_
            have hF : (F_m_loses_28 S P tc g v_lostOnes k z) k' z' = ((0 : Int32), (0 : Int32)) := by
              unfold F_m_loses_28
              rw [if_neg c51]
              rw [if_pos c63]
              rw [if_pos c98]
            rw [hF] at hx'
            exact hx'.fg (gs rfl (gs rfl (gs rfl (gs rfl (gs rfl (gs rfl (gs rfl (gs (congrArg Value.int (show nI (k' + 1) = (nI k') + (1 : Int32) from (nq_to (a := k' + 1) (nq_add (a := k') (b := 1) rfl (rfl : (1 : Int32) = nI 1)) (by omega)).symm)) (gn gz)))))))))
      · skip
        refine Ev.iconst (v := 1) rfl (by decide) ?_
        refine Ev.goto (tgt := 59) rfl (by decide) ?_
        refine Ev.istore rfl rfl rfl ?_
        refine Ev.iload rfl rfl ?_
        refine Ev.zne (tgt := 89) rfl (by decide) (fun c63 => ?_) (fun c63 => ?_)
        · skip
          refine Ev.iconst (v := 1) rfl (by decide) ?_
          refine Ev.goto (tgt := 94) rfl (by decide) ?_
          refine Ev.istore rfl rfl rfl ?_
          refine Ev.iload rfl rfl ?_
          refine Ev.zne (tgt := 124) rfl (by decide) (fun c98 => ?_) (fun c98 => ?_)
          · skip
            refine Ev.iconst (v := 1) rfl (by decide) ?_
            refine Ev.goto (tgt := 129) rfl (by decide) ?_
            refine Ev.istore rfl rfl rfl ?_
            refine Ev.iinc (d := 1) rfl rfl rfl (by decide) rfl ?_
            refine Ev.goto (tgt := 28) rfl (by decide) ?_
            have hF : (F_m_loses_28 S P tc g v_lostOnes k z) k' z' = ((1 : Int32), (1 : Int32)) := by
              unfold F_m_loses_28
              rw [if_pos c51]
              rw [if_neg c63]
              rw [if_neg c98]
            rw [hF] at hx'
            exact hx'.fg (gs rfl (gs rfl (gs rfl (gs rfl (gs rfl (gs rfl (gs rfl (gs (congrArg Value.int (show nI (k' + 1) = (nI k') + (1 : Int32) from (nq_to (a := k' + 1) (nq_add (a := k') (b := 1) rfl (rfl : (1 : Int32) = nI 1)) (by omega)).symm)) (gn gz)))))))))
          · skip
            refine Ev.iload rfl rfl ?_
            refine Ev.zeq (tgt := 128) rfl (by decide) (fun c103 => absurd c103 (by decide)) (fun c103 => ?_)
            refine Ev.aload_n rfl rfl ?_
            refine Ev.getf rfl rfl m0 rfl ?_
            refine Ev.aload_n rfl rfl ?_
            refine Ev.iload_n rfl rfl ?_
            refine Ev.iload rfl rfl ?_
            refine Ev.cV2 rfl rfl m0 rfl rfl (by decide) ⟨(Nat.le_refl _), (Nat.le_refl _)⟩ (m_classAt_ok hM k') ?_
            refine Ev.iconst (v := 1) rfl (by decide) ?_
            refine Ev.iadd rfl ?_
            refine Ev.ialdN (k := 970 + 40 * p + 1 + 6 * k' + 1) rfl m1 (nq_to (a := 970 + 40 * p + 1 + 6 * k' + 1) (nq_add (a := 970 + 40 * p + 1 + 6 * k') (b := 1) rfl (rfl : (1 : Int32) = nI 1)) (by omega)) ⟨(by omega), by decide⟩ ?_
            rw [show A (970 + 40 * p + 1 + 6 * k' + 1) = _ from hP.2 k' (by omega) 1 (by decide)]
            have hqb := (goT_cl (hgo k' (by omega)).1).2
            refine Ev.iload_n rfl rfl ?_
            refine Ev.jeq (tgt := 128) rfl (by decide) (fun c121 => ?_) (fun c121 => ?_)
            · skip
              refine Ev.iconst (v := 0) rfl (by decide) ?_
              refine Ev.istore rfl rfl rfl ?_
              refine Ev.iinc (d := 1) rfl rfl rfl (by decide) rfl ?_
              refine Ev.goto (tgt := 28) rfl (by decide) ?_
              have hF : (F_m_loses_28 S P tc g v_lostOnes k z) k' z' = ((1 : Int32), (0 : Int32)) := by
                unfold F_m_loses_28
                rw [if_pos c51]
                rw [if_neg c63]
                rw [if_pos c98]
                rw [if_pos c121]
              rw [hF] at hx'
              exact hx'.fg (gs rfl (gs rfl (gs rfl (gs rfl (gs rfl (gs rfl (gs rfl (gs (congrArg Value.int (show nI (k' + 1) = (nI k') + (1 : Int32) from (nq_to (a := k' + 1) (nq_add (a := k') (b := 1) rfl (rfl : (1 : Int32) = nI 1)) (by omega)).symm)) (gn gz)))))))))
            · skip
              refine Ev.iconst (v := 1) rfl (by decide) ?_
              refine Ev.goto (tgt := 129) rfl (by decide) ?_
              refine Ev.istore rfl rfl rfl ?_
              refine Ev.iinc (d := 1) rfl rfl rfl (by decide) rfl ?_
              refine Ev.goto (tgt := 28) rfl (by decide) ?_
              have hF : (F_m_loses_28 S P tc g v_lostOnes k z) k' z' = ((1 : Int32), (1 : Int32)) := by
                unfold F_m_loses_28
                rw [if_pos c51]
                rw [if_neg c63]
                rw [if_pos c98]
                rw [if_neg c121]
              rw [hF] at hx'
              exact hx'.fg (gs rfl (gs rfl (gs rfl (gs rfl (gs rfl (gs rfl (gs rfl (gs (congrArg Value.int (show nI (k' + 1) = (nI k') + (1 : Int32) from (nq_to (a := k' + 1) (nq_add (a := k') (b := 1) rfl (rfl : (1 : Int32) = nI 1)) (by omega)).symm)) (gn gz)))))))))
        · skip
          refine Ev.iload rfl rfl ?_
          refine Ev.zeq (tgt := 93) rfl (by decide) (fun c68 => absurd c68 (by decide)) (fun c68 => ?_)
          refine Ev.aload_n rfl rfl ?_
          refine Ev.getf rfl rfl m0 rfl ?_
          refine Ev.aload_n rfl rfl ?_
          refine Ev.iload_n rfl rfl ?_
          refine Ev.iload rfl rfl ?_
          refine Ev.cV2 rfl rfl m0 rfl rfl (by decide) ⟨(Nat.le_refl _), (Nat.le_refl _)⟩ (m_classAt_ok hM k') ?_
          refine Ev.iconst (v := 1) rfl (by decide) ?_
          refine Ev.iadd rfl ?_
          refine Ev.ialdN (k := 970 + 40 * p + 1 + 6 * k' + 1) rfl m1 (nq_to (a := 970 + 40 * p + 1 + 6 * k' + 1) (nq_add (a := 970 + 40 * p + 1 + 6 * k') (b := 1) rfl (rfl : (1 : Int32) = nI 1)) (by omega)) ⟨(by omega), by decide⟩ ?_
          rw [show A (970 + 40 * p + 1 + 6 * k' + 1) = _ from hP.2 k' (by omega) 1 (by decide)]
          have hqb := (goT_cl (hgo k' (by omega)).1).2
          refine Ev.iload_n rfl rfl ?_
          refine Ev.jne (tgt := 93) rfl (by decide) (fun c86 => ?_) (fun c86 => ?_)
          · skip
            refine Ev.iconst (v := 0) rfl (by decide) ?_
            refine Ev.istore rfl rfl rfl ?_
            refine Ev.iload rfl rfl ?_
            refine Ev.zne (tgt := 124) rfl (by decide) (fun c98 => ?_) (fun c98 => ?_)
            · skip
              refine Ev.iconst (v := 1) rfl (by decide) ?_
              refine Ev.goto (tgt := 129) rfl (by decide) ?_
              refine Ev.istore rfl rfl rfl ?_
              refine Ev.iinc (d := 1) rfl rfl rfl (by decide) rfl ?_
              refine Ev.goto (tgt := 28) rfl (by decide) ?_
              have hF : (F_m_loses_28 S P tc g v_lostOnes k z) k' z' = ((0 : Int32), (1 : Int32)) := by
                unfold F_m_loses_28
                rw [if_pos c51]
                rw [if_pos c63]
                rw [if_neg c86]
                rw [if_neg c98]
              rw [hF] at hx'
              exact hx'.fg (gs rfl (gs rfl (gs rfl (gs rfl (gs rfl (gs rfl (gs rfl (gs (congrArg Value.int (show nI (k' + 1) = (nI k') + (1 : Int32) from (nq_to (a := k' + 1) (nq_add (a := k') (b := 1) rfl (rfl : (1 : Int32) = nI 1)) (by omega)).symm)) (gn gz)))))))))
            · skip
              refine Ev.iload rfl rfl ?_
              refine Ev.zeq (tgt := 128) rfl (by decide) (fun c103 => absurd c103 (by decide)) (fun c103 => ?_)
              refine Ev.aload_n rfl rfl ?_
              refine Ev.getf rfl rfl m0 rfl ?_
              refine Ev.aload_n rfl rfl ?_
              refine Ev.iload_n rfl rfl ?_
              refine Ev.iload rfl rfl ?_
              refine Ev.cV2 rfl rfl m0 rfl rfl (by decide) ⟨(Nat.le_refl _), (Nat.le_refl _)⟩ (m_classAt_ok hM k') ?_
              refine Ev.iconst (v := 1) rfl (by decide) ?_
              refine Ev.iadd rfl ?_
              refine Ev.ialdN (k := 970 + 40 * p + 1 + 6 * k' + 1) rfl m1 (nq_to (a := 970 + 40 * p + 1 + 6 * k' + 1) (nq_add (a := 970 + 40 * p + 1 + 6 * k') (b := 1) rfl (rfl : (1 : Int32) = nI 1)) (by omega)) ⟨(by omega), by decide⟩ ?_
              rw [show A (970 + 40 * p + 1 + 6 * k' + 1) = _ from hP.2 k' (by omega) 1 (by decide)]
              have hqb := (goT_cl (hgo k' (by omega)).1).2
              refine Ev.iload_n rfl rfl ?_
              refine Ev.jeq (tgt := 128) rfl (by decide) (fun c121 => ?_) (fun c121 => ?_)
              · skip
                refine Ev.iconst (v := 0) rfl (by decide) ?_
                refine Ev.istore rfl rfl rfl ?_
                refine Ev.iinc (d := 1) rfl rfl rfl (by decide) rfl ?_
                refine Ev.goto (tgt := 28) rfl (by decide) ?_
                have hF : (F_m_loses_28 S P tc g v_lostOnes k z) k' z' = ((0 : Int32), (0 : Int32)) := by
                  unfold F_m_loses_28
                  rw [if_pos c51]
                  rw [if_pos c63]
                  rw [if_neg c86]
                  rw [if_pos c98]
                  rw [if_pos c121]
                rw [hF] at hx'
                exact hx'.fg (gs rfl (gs rfl (gs rfl (gs rfl (gs rfl (gs rfl (gs rfl (gs (congrArg Value.int (show nI (k' + 1) = (nI k') + (1 : Int32) from (nq_to (a := k' + 1) (nq_add (a := k') (b := 1) rfl (rfl : (1 : Int32) = nI 1)) (by omega)).symm)) (gn gz)))))))))
              · skip
                refine Ev.iconst (v := 1) rfl (by decide) ?_
                refine Ev.goto (tgt := 129) rfl (by decide) ?_
                refine Ev.istore rfl rfl rfl ?_
                refine Ev.iinc (d := 1) rfl rfl rfl (by decide) rfl ?_
                refine Ev.goto (tgt := 28) rfl (by decide) ?_
                have hF : (F_m_loses_28 S P tc g v_lostOnes k z) k' z' = ((0 : Int32), (1 : Int32)) := by
                  unfold F_m_loses_28
                  rw [if_pos c51]
                  rw [if_pos c63]
                  rw [if_neg c86]
                  rw [if_pos c98]
                  rw [if_neg c121]
                rw [hF] at hx'
                exact hx'.fg (gs rfl (gs rfl (gs rfl (gs rfl (gs rfl (gs rfl (gs rfl (gs (congrArg Value.int (show nI (k' + 1) = (nI k') + (1 : Int32) from (nq_to (a := k' + 1) (nq_add (a := k') (b := 1) rfl (rfl : (1 : Int32) = nI 1)) (by omega)).symm)) (gn gz)))))))))
          · skip
            refine Ev.iconst (v := 1) rfl (by decide) ?_
            refine Ev.goto (tgt := 94) rfl (by decide) ?_
            refine Ev.istore rfl rfl rfl ?_
            refine Ev.iload rfl rfl ?_
            refine Ev.zne (tgt := 124) rfl (by decide) (fun c98 => ?_) (fun c98 => ?_)
            · skip
              refine Ev.iconst (v := 1) rfl (by decide) ?_
              refine Ev.goto (tgt := 129) rfl (by decide) ?_
              refine Ev.istore rfl rfl rfl ?_
              refine Ev.iinc (d := 1) rfl rfl rfl (by decide) rfl ?_
              refine Ev.goto (tgt := 28) rfl (by decide) ?_
              have hF : (F_m_loses_28 S P tc g v_lostOnes k z) k' z' = ((1 : Int32), (1 : Int32)) := by
                unfold F_m_loses_28
                rw [if_pos c51]
                rw [if_pos c63]
                rw [if_pos c86]
                rw [if_neg c98]
              rw [hF] at hx'
              exact hx'.fg (gs rfl (gs rfl (gs rfl (gs rfl (gs rfl (gs rfl (gs rfl (gs (congrArg Value.int (show nI (k' + 1) = (nI k') + (1 : Int32) from (nq_to (a := k' + 1) (nq_add (a := k') (b := 1) rfl (rfl : (1 : Int32) = nI 1)) (by omega)).symm)) (gn gz)))))))))
            · skip
              refine Ev.iload rfl rfl ?_
              refine Ev.zeq (tgt := 128) rfl (by decide) (fun c103 => absurd c103 (by decide)) (fun c103 => ?_)
              refine Ev.aload_n rfl rfl ?_
              refine Ev.getf rfl rfl m0 rfl ?_
              refine Ev.aload_n rfl rfl ?_
              refine Ev.iload_n rfl rfl ?_
              refine Ev.iload rfl rfl ?_
              refine Ev.cV2 rfl rfl m0 rfl rfl (by decide) ⟨(Nat.le_refl _), (Nat.le_refl _)⟩ (m_classAt_ok hM k') ?_
              refine Ev.iconst (v := 1) rfl (by decide) ?_
              refine Ev.iadd rfl ?_
              refine Ev.ialdN (k := 970 + 40 * p + 1 + 6 * k' + 1) rfl m1 (nq_to (a := 970 + 40 * p + 1 + 6 * k' + 1) (nq_add (a := 970 + 40 * p + 1 + 6 * k') (b := 1) rfl (rfl : (1 : Int32) = nI 1)) (by omega)) ⟨(by omega), by decide⟩ ?_
              rw [show A (970 + 40 * p + 1 + 6 * k' + 1) = _ from hP.2 k' (by omega) 1 (by decide)]
              have hqb := (goT_cl (hgo k' (by omega)).1).2
              refine Ev.iload_n rfl rfl ?_
              refine Ev.jeq (tgt := 128) rfl (by decide) (fun c121 => ?_) (fun c121 => ?_)
              · skip
                refine Ev.iconst (v := 0) rfl (by decide) ?_
                refine Ev.istore rfl rfl rfl ?_
                refine Ev.iinc (d := 1) rfl rfl rfl (by decide) rfl ?_
                refine Ev.goto (tgt := 28) rfl (by decide) ?_
                have hF : (F_m_loses_28 S P tc g v_lostOnes k z) k' z' = ((1 : Int32), (0 : Int32)) := by
                  unfold F_m_loses_28
                  rw [if_pos c51]
                  rw [if_pos c63]
                  rw [if_pos c86]
                  rw [if_pos c98]
                  rw [if_pos c121]
                rw [hF] at hx'
                exact hx'.fg (gs rfl (gs rfl (gs rfl (gs rfl (gs rfl (gs rfl (gs rfl (gs (congrArg Value.int (show nI (k' + 1) = (nI k') + (1 : Int32) from (nq_to (a := k' + 1) (nq_add (a := k') (b := 1) rfl (rfl : (1 : Int32) = nI 1)) (by omega)).symm)) (gn gz)))))))))
              · skip
                refine Ev.iconst (v := 1) rfl (by decide) ?_
                refine Ev.goto (tgt := 129) rfl (by decide) ?_
                refine Ev.istore rfl rfl rfl ?_
                refine Ev.iinc (d := 1) rfl rfl rfl (by decide) rfl ?_
                refine Ev.goto (tgt := 28) rfl (by decide) ?_
                have hF : (F_m_loses_28 S P tc g v_lostOnes k z) k' z' = ((1 : Int32), (1 : Int32)) := by
                  unfold F_m_loses_28
                  rw [if_pos c51]
                  rw [if_pos c63]
                  rw [if_pos c86]
                  rw [if_pos c98]
                  rw [if_neg c121]
                rw [hF] at hx'
                exact hx'.fg (gs rfl (gs rfl (gs rfl (gs rfl (gs rfl (gs rfl (gs rfl (gs (congrArg Value.int (show nI (k' + 1) = (nI k') + (1 : Int32) from (nq_to (a := k' + 1) (nq_add (a := k') (b := 1) rfl (rfl : (1 : Int32) = nI 1)) (by omega)).symm)) (gn gz)))))))))
    · skip
      refine Ev.iload rfl rfl ?_
      refine Ev.aload_n rfl rfl ?_
      refine Ev.iload_n rfl rfl ?_
      refine Ev.cV1 rfl rfl m0 rfl rfl (by decide) ⟨(Nat.le_refl _), (Nat.le_refl _)⟩ (m_classes_ok hM hP hp h6) ?_
      refine Ev.jge (tgt := 137) rfl (by decide) (fun c35 => ?_) (fun c35 => absurd c35 (nI_nlt (Nat.le_refl _) (by omega)))
      refine Ev.iload rfl rfl ?_
      refine Ev.zeq (tgt := 171) rfl (by decide) (fun c139 => ?_) (fun c139 => ?_)
      · skip
        refine Ev.iinc (d := 1) rfl rfl rfl (by decide) rfl ?_
        refine Ev.goto (tgt := 8) rfl (by decide) ?_
        have hF : (F_m_loses_8 S P tc g v_lostOnes) k z = (z.1, z.2) := by
          unfold F_m_loses_8
          rw [if_pos c139]
        rw [hF] at hx
        exact (hx (by show (z.1 21 = nI (z.1 21).toNatClampNeg ∧ (z.1 21).toNatClampNeg ≤ k + 1); first | exact lost_up hI (by omega) | exact lost_st hI) τ' fr m1 m0 m_lostOnes kp).fg (gs rfl (gs rfl (gs rfl (gs rfl (gs (congrArg Value.int (show nI (k + 1) = (nI k) + (1 : Int32) from (nq_to (a := k + 1) (nq_add (a := k) (b := 1) rfl (rfl : (1 : Int32) = nI 1)) (by omega)).symm)) (gn (gn (gn (gn gz)))))))))
      · skip
        refine Ev.iload rfl rfl ?_
        refine Ev.zeq (tgt := 150) rfl (by decide) (fun c144 => ?_) (fun c144 => ?_)
        · skip
          refine Ev.aload_n rfl rfl ?_
          refine Ev.getf rfl rfl m0 rfl ?_
          refine Ev.aload_n rfl rfl ?_
          refine Ev.getf rfl rfl m0 rfl ?_
          rw [hI.1]
          refine Ev.iload rfl rfl ?_
          refine Ev.iastE (k := (z.1 21).toNatClampNeg) rfl m_lostOnes rfl ⟨(by omega), by decide⟩ (fun τ2 f1 m_lostOnes => ?_)
          have m1 := frm.cell f1 m1 (by omega)
          have m0 := frm.cell f1 m0 (by omega)
          have kp : (∀ q, q ≠ y → q ≠ y + 11 → τ2.2 q = σ.2 q) := fun q n0 n1 => (f1.2 q (by omega)).trans (kp q n0 n1)
          have fr := fr.step f1 (by omega) (by omega)
          have hM : isM _ y z.1 A := ⟨m0, m1⟩
          refine Ev.aload_n rfl rfl ?_
          refine Ev.dup rfl rfl ?_
          refine Ev.getf rfl rfl m0 rfl ?_
          refine Ev.iconst (v := 1) rfl (by decide) ?_
          refine Ev.iadd rfl ?_
          refine Ev.putE rfl rfl m0 rfl rfl rfl (Nat.le_of_ble_eq_true rfl) (fun τ3 f1 q1 => ?_)
          have m0 : τ3.2 y = some (.inr (.inr (10, mo y (upd z.1 21 ((z.1 21) + (1 : Int32)))))) := q1
          have m1 := frm.cell f1 m1 (by omega)
          have m_lostOnes := frm.cell f1 m_lostOnes (by omega)
          have kp : (∀ q, q ≠ y → q ≠ y + 11 → τ3.2 q = σ.2 q) := fun q n0 n1 => (f1.2 q (by omega)).trans (kp q n0 n1)
          have fr := fr.step f1 (by omega) (by omega)
          have hM : isM _ y (upd z.1 21 ((z.1 21) + (1 : Int32))) A := ⟨m0, m1⟩
          refine Ev.iinc (d := 1) rfl rfl rfl (by decide) rfl ?_
          refine Ev.goto (tgt := 8) rfl (by decide) ?_
          have hF : (F_m_loses_8 S P tc g v_lostOnes) k z = ((upd z.1 21 ((z.1 21) + (1 : Int32))), (upd z.2 ((z.1 21).toNatClampNeg) (nI k))) := by
            unfold F_m_loses_8
            rw [if_neg c139]
            rw [if_pos c144]
          rw [hF] at hx
          exact (hx (by show ((upd z.1 21 ((z.1 21) + (1 : Int32))) 21 = nI ((upd z.1 21 ((z.1 21) + (1 : Int32))) 21).toNatClampNeg ∧ ((upd z.1 21 ((z.1 21) + (1 : Int32))) 21).toNatClampNeg ≤ k + 1); first | exact lost_up hI (by omega) | exact lost_st hI) τ3 fr m1 m0 m_lostOnes kp).fg (gs rfl (gs rfl (gs rfl (gs rfl (gs (congrArg Value.int (show nI (k + 1) = (nI k) + (1 : Int32) from (nq_to (a := k + 1) (nq_add (a := k) (b := 1) rfl (rfl : (1 : Int32) = nI 1)) (by omega)).symm)) (gn (gn (gn (gn gz)))))))))
        · skip
          refine Ev.goto (tgt := 171) rfl (by decide) ?_
          refine Ev.iinc (d := 1) rfl rfl rfl (by decide) rfl ?_
          refine Ev.goto (tgt := 8) rfl (by decide) ?_
          have hF : (F_m_loses_8 S P tc g v_lostOnes) k z = (z.1, z.2) := by
            unfold F_m_loses_8
            rw [if_neg c139]
            rw [if_neg c144]
          rw [hF] at hx
          exact (hx (by show (z.1 21 = nI (z.1 21).toNatClampNeg ∧ (z.1 21).toNatClampNeg ≤ k + 1); first | exact lost_up hI (by omega) | exact lost_st hI) τ' fr m1 m0 m_lostOnes kp).fg (gs rfl (gs rfl (gs rfl (gs rfl (gs (congrArg Value.int (show nI (k + 1) = (nI k) + (1 : Int32) from (nq_to (a := k + 1) (nq_add (a := k) (b := 1) rfl (rfl : (1 : Int32) = nI 1)) (by omega)).symm)) (gn (gn (gn (gn gz)))))))))
  · skip
    intro hI
    intro τ' fr m1 m0 m_lostOnes kp
    have hM : isM _ y ((fo (F_m_loses_8 S P tc g v_lostOnes) (S.1) 0 ((upd g 21 (0 : Int32)), v_lostOnes)).1) A := ⟨m0, m1⟩
    refine Ev.iload rfl rfl ?_
    refine Ev.aload_n rfl rfl ?_
    refine Ev.getf rfl rfl m0 rfl ?_
    refine Ev.iload_n rfl rfl ?_
    refine Ev.ialdN (k := s) rfl m1 (nq_to (a := s) rfl (by omega)) ⟨(by omega), by decide⟩ ?_
    rw [hS.1]
    refine Ev.jge (tgt := 177) rfl (by decide) (fun c16 => ?_) (fun c16 => absurd c16 (nI_nlt (Nat.le_refl _) (by omega)))
    refine Ev.ret rfl rfl (Nat.le_refl _) (Nat.le_refl _) ?_
    have hK : (K_m_loses S P tc g v_lostOnes) = ((fo (F_m_loses_8 S P tc g v_lostOnes) (S.1) 0 ((upd g 21 (0 : Int32)), v_lostOnes)).1, (fo (F_m_loses_8 S P tc g v_lostOnes) (S.1) 0 ((upd g 21 (0 : Int32)), v_lostOnes)).2) := by rfl
    rw [← hQ]
    dsimp only
    rw [hK]
    exact ⟨rfl, fr, m0, m_lostOnes, kp⟩
def F_m_spreads_14 (S : Sch) (P : Pln) (tc : Int32) (r0 n0 : Nat) (g : Nat → Int32) (v_lostOnes : Nat → Int32) (v_tried : Nat → Int32) : Nat → (Nat → Int32) → (Nat → Int32) := fun k z => if (P.2 k 1) = tc then (upd z k (0 : Int32)) else (upd z k (P.2 k 5))
def F_m_spreads_69 (S : Sch) (P : Pln) (tc : Int32) (r0 n0 : Nat) (g : Nat → Int32) (v_lostOnes : Nat → Int32) (v_tried : Nat → Int32) : Nat → (Nat × Int32 × (Nat → Int32)) → (Nat × Int32 × (Nat → Int32)) ⊕ (Int32 × (Nat → Int32)) := fun k z => if z.2.1 = (0 : Int32) then (.inr (z.2.1, z.2.2)) else (if (nI (z.1 % (P.1 + 1))) = (nI P.1) then (.inl (z.1 / (P.1 + 1), z.2.1, z.2.2)) else (if (P.2 (z.1 % (P.1 + 1)) 1) = tc then (.inl (z.1 / (P.1 + 1), (0 : Int32), (upd z.2.2 (z.1 % (P.1 + 1)) ((z.2.2 (z.1 % (P.1 + 1))) ||| ((1 : Int32) <<< ((nI ((v_lostOnes k).toNatClampNeg)) &&& 31)))))) else (if (K_can S (P.2 (z.1 % (P.1 + 1))) (nI ((v_lostOnes k).toNatClampNeg))) = (0 : Int32) then (.inl (z.1 / (P.1 + 1), (0 : Int32), (upd z.2.2 (z.1 % (P.1 + 1)) ((z.2.2 (z.1 % (P.1 + 1))) ||| ((1 : Int32) <<< ((nI ((v_lostOnes k).toNatClampNeg)) &&& 31)))))) else (if (S.2.2 9 3) < (K_many ((z.2.2 (z.1 % (P.1 + 1))) ||| ((1 : Int32) <<< ((nI ((v_lostOnes k).toNatClampNeg)) &&& 31)))) then (.inl (z.1 / (P.1 + 1), (0 : Int32), (upd z.2.2 (z.1 % (P.1 + 1)) ((z.2.2 (z.1 % (P.1 + 1))) ||| ((1 : Int32) <<< ((nI ((v_lostOnes k).toNatClampNeg)) &&& 31)))))) else (.inl (z.1 / (P.1 + 1), (1 : Int32), (upd z.2.2 (z.1 % (P.1 + 1)) ((z.2.2 (z.1 % (P.1 + 1))) ||| ((1 : Int32) <<< ((nI ((v_lostOnes k).toNatClampNeg)) &&& 31))))))))))
theorem spr01 {S : Sch} {P : Pln} {tc : Int32} {r0 n0 : Nat} {g vl vt t0 : Nat → Int32} : (∀ z, fe (F_m_spreads_69 S P tc r0 n0 g vl vt) n0 0 (r0, (1 : Int32), t0) = .inl z → z.2.1 = 0 ∨ z.2.1 = 1) ∧ ∀ r, fe (F_m_spreads_69 S P tc r0 n0 g vl vt) n0 0 (r0, (1 : Int32), t0) = .inr r → r.1 = 0 ∨ r.1 = 1 :=
  fe_inv (F := F_m_spreads_69 S P tc r0 n0 g vl vt) (fun _ z => z.2.1 = 0 ∨ z.2.1 = 1) (fun r => r.1 = 0 ∨ r.1 = 1) n0 0 (r0, (1 : Int32), t0) (Or.inr rfl) (fun j z _ _ hz => by
    refine ⟨fun z' h => ?_, fun r h => ?_⟩
    · unfold F_m_spreads_69 at h
      repeat' split at h
      all_goals first | (cases h; done) | (cases h; first | exact hz | exact Or.inl rfl | exact Or.inr rfl)
    · unfold F_m_spreads_69 at h
      repeat' split at h
      all_goals first | (cases h; done) | (cases h; first | exact hz | exact Or.inl rfl | exact Or.inr rfl))
def K_m_spreads (S : Sch) (P : Pln) (tc : Int32) (r0 n0 : Nat) (g : Nat → Int32) (v_lostOnes : Nat → Int32) (v_tried : Nat → Int32) : Int32 × (Nat → Int32) := Sum.elim (fun (zx : Nat × Int32 × (Nat → Int32)) => (zx.2.1, zx.2.2)) (fun (rx : Int32 × (Nat → Int32)) => (rx.1, rx.2)) (fe (F_m_spreads_69 S P tc r0 n0 g v_lostOnes v_tried) (n0) 0 (r0, (1 : Int32), (fo (F_m_spreads_14 S P tc r0 n0 g v_lostOnes v_tried) (P.1) 0 v_tried)))
theorem m_spreads_ok (hM : isM σ y g A) {s : Nat} (hS : mS A s S) (hs : s + 120 ≤ 4500) (hwS : wS S) (hP : mP A (970 + 40 * p) P) (hp : p < 3) (hwP : wP P) (hgo : goP S P) {v_lostOnes : Nat → Int32} (m_lostOnes : σ.2 (y + 11) = some (.inl (0, 16, v_lostOnes))) {v_tried : Nat → Int32} (m_tried : σ.2 (y + 8) = some (.inl (0, 6, v_tried))) (tc : Int32) {r0 n0 : Nat} (hlo : g 21 = nI n0) (hn6 : n0 ≤ 6) (hr0 : r0 < 2 ^ 31) (hlos : ∀ k, k < n0 → v_lostOnes k = nI (v_lostOnes k).toNatClampNeg ∧ (v_lostOnes k).toNatClampNeg < S.1) : RetX Γ m_M_spreads [(.ref y), (.int (nI s)), (.int (nI p)), (.int tc), (.int (nI r0))] σ y (y + 17) (some (.int ((K_m_spreads S P tc r0 n0 g v_lostOnes v_tried).1))) (fun τ => τ.2 (y + 8) = some (.inl (0, 6, (K_m_spreads S P tc r0 n0 g v_lostOnes v_tried).2)) ∧ (∀ q, q ≠ y + 8 → τ.2 q = σ.2 q)) := by
  obtain ⟨m0, m1⟩ := id hM
  have hn16 := hwS.1
  have hn5 := hwS.2.1
  have h6 := hwP.1
  unfold RetX
  generalize hQ : (fun (r : Option Value) (τ : ex_S) => r = some (.int ((K_m_spreads S P tc r0 n0 g v_lostOnes v_tried).1)) ∧ frm σ τ y (y + 17) ∧ (fun τ : ex_S => τ.2 (y + 8) = some (.inl (0, 6, (K_m_spreads S P tc r0 n0 g v_lostOnes v_tried).2)) ∧ (∀ q, q ≠ y + 8 → τ.2 q = σ.2 q)) τ) = Q
  refine Ret.start pm_241 rfl ?_
  have fr : frm σ σ y (y + 17) := frm.rf
  have kp : (∀ q, q ≠ y + 8 → σ.2 q = σ.2 q) := fun _ _ => rfl
  have hM : isM _ y g A := ⟨m0, m1⟩
  refine Ev.aload_n rfl rfl ?_
  refine Ev.iload_n rfl rfl ?_
  refine Ev.cV1 rfl rfl m0 rfl rfl (by decide) ⟨(Nat.le_refl _), (Nat.le_refl _)⟩ (m_classes_ok hM hP hp h6) ?_
  refine Ev.istore rfl rfl rfl ?_
  refine Ev.iload rfl rfl ?_
  refine Ev.istore rfl rfl rfl ?_
  refine Ev.iconst (v := 0) rfl (by decide) ?_
  refine Ev.istore rfl rfl rfl ?_
  refine Ev.fg (L := [some (.ref y), some (.int (nI s)), some (.int (nI p)), some (.int tc), none, some (.int (nI P.1)), some (.int (nI r0)), some (.int (nI 0)), none, none]) ?_ (gs rfl (gs rfl (gs rfl (gs rfl (gn (gs rfl (gs rfl (gs (congrArg Value.int (rfl : (0 : Int32) = nI 0).symm) (gn (gn gz))))))))))
  refine lp (fun (k : Nat) (z : (Nat → Int32)) => ∀ τ' : ex_S, frm σ τ' y (y + 17) → τ'.2 (y + 1) = some (.inl (0, 4500, A)) → τ'.2 y = some (.inr (.inr (10, mo y g))) → τ'.2 (y + 11) = some (.inl (0, 16, v_lostOnes)) → τ'.2 (y + 8) = some (.inl (0, 6, z)) → (∀ q, q ≠ y + 8 → τ'.2 q = σ.2 q) → Ev Γ 0 0 m_M_spreads 0 0 14 [some (.ref y), some (.int (nI s)), some (.int (nI p)), some (.int tc), none, some (.int (nI P.1)), some (.int (nI r0)), some (.int (nI k)), none, none] [] τ' Q) (F_m_spreads_14 S P tc r0 n0 g v_lostOnes v_tried) (P.1) (fun k z hk hx => ?_) (P.1) 0 v_tried (by omega) ?_ σ fr m1 m0 m_lostOnes m_tried kp
  · skip
    intro τ' fr m1 m0 m_lostOnes m_tried kp
    have hM : isM _ y g A := ⟨m0, m1⟩
    refine Ev.iload rfl rfl ?_
    refine Ev.iload rfl rfl ?_
    refine Ev.jge (tgt := 63) rfl (by decide) (fun c18 => absurd (nI_lt hk (by omega)) c18) (fun c18 => ?_)
    refine Ev.aload_n rfl rfl ?_
    refine Ev.getf rfl rfl m0 rfl ?_
    refine Ev.iload rfl rfl ?_
    refine Ev.aload_n rfl rfl ?_
    refine Ev.getf rfl rfl m0 rfl ?_
    refine Ev.aload_n rfl rfl ?_
    refine Ev.iload_n rfl rfl ?_
    refine Ev.iload rfl rfl ?_
    refine Ev.cV2 rfl rfl m0 rfl rfl (by decide) ⟨(Nat.le_refl _), (Nat.le_refl _)⟩ (m_classAt_ok hM k) ?_
    refine Ev.iconst (v := 1) rfl (by decide) ?_
    refine Ev.iadd rfl ?_
    refine Ev.ialdN (k := 970 + 40 * p + 1 + 6 * k + 1) rfl m1 (nq_to (a := 970 + 40 * p + 1 + 6 * k + 1) (nq_add (a := 970 + 40 * p + 1 + 6 * k) (b := 1) rfl (rfl : (1 : Int32) = nI 1)) (by omega)) ⟨(by omega), by decide⟩ ?_
    rw [show A (970 + 40 * p + 1 + 6 * k + 1) = _ from hP.2 k (by omega) 1 (by decide)]
    have hqb := (goT_cl (hgo k (by omega)).1).2
    refine Ev.iload_n rfl rfl ?_
    refine Ev.jne (tgt := 49) rfl (by decide) (fun c42 => ?_) (fun c42 => ?_)
    · skip
      refine Ev.aload_n rfl rfl ?_
      refine Ev.iload_n rfl rfl ?_
      refine Ev.iload rfl rfl ?_
      refine Ev.cV2 rfl rfl m0 rfl rfl (by decide) ⟨(Nat.le_refl _), (Nat.le_refl _)⟩ (m_sitsIn_ok hM hP hp h6 k (by omega)) ?_
      refine Ev.iastE (k := k) rfl m_tried rfl ⟨(by omega), by decide⟩ (fun τ1 f1 m_tried => ?_)
      have m1 := frm.cell f1 m1 (by omega)
      have m0 := frm.cell f1 m0 (by omega)
      have m_lostOnes := frm.cell f1 m_lostOnes (by omega)
      have kp : (∀ q, q ≠ y + 8 → τ1.2 q = σ.2 q) := fun q n0 => (f1.2 q (by omega)).trans (kp q n0)
      have fr := fr.step f1 (by omega) (by omega)
      have hM : isM _ y g A := ⟨m0, m1⟩
      refine Ev.iinc (d := 1) rfl rfl rfl (by decide) rfl ?_
      refine Ev.goto (tgt := 14) rfl (by decide) ?_
      have hF : (F_m_spreads_14 S P tc r0 n0 g v_lostOnes v_tried) k z = (upd z k (P.2 k 5)) := by
        unfold F_m_spreads_14
        rw [if_neg c42]
      rw [hF] at hx
      exact (hx τ1 fr m1 m0 m_lostOnes m_tried kp).fg (gs rfl (gs rfl (gs rfl (gs rfl (gn (gs rfl (gs rfl (gs (congrArg Value.int (show nI (k + 1) = (nI k) + (1 : Int32) from (nq_to (a := k + 1) (nq_add (a := k) (b := 1) rfl (rfl : (1 : Int32) = nI 1)) (by omega)).symm)) (gn (gn gz))))))))))
    · skip
      refine Ev.iconst (v := 0) rfl (by decide) ?_
      refine Ev.goto (tgt := 56) rfl (by decide) ?_
      refine Ev.iastE (k := k) rfl m_tried rfl ⟨(by omega), by decide⟩ (fun τ2 f1 m_tried => ?_)
      have m1 := frm.cell f1 m1 (by omega)
      have m0 := frm.cell f1 m0 (by omega)
      have m_lostOnes := frm.cell f1 m_lostOnes (by omega)
      have kp : (∀ q, q ≠ y + 8 → τ2.2 q = σ.2 q) := fun q n0 => (f1.2 q (by omega)).trans (kp q n0)
      have fr := fr.step f1 (by omega) (by omega)
      have hM : isM _ y g A := ⟨m0, m1⟩
      refine Ev.iinc (d := 1) rfl rfl rfl (by decide) rfl ?_
      refine Ev.goto (tgt := 14) rfl (by decide) ?_
      have hF : (F_m_spreads_14 S P tc r0 n0 g v_lostOnes v_tried) k z = (upd z k (0 : Int32)) := by
        unfold F_m_spreads_14
        rw [if_pos c42]
      rw [hF] at hx
      exact (hx τ2 fr m1 m0 m_lostOnes m_tried kp).fg (gs rfl (gs rfl (gs rfl (gs rfl (gn (gs rfl (gs rfl (gs (congrArg Value.int (show nI (k + 1) = (nI k) + (1 : Int32) from (nq_to (a := k + 1) (nq_add (a := k) (b := 1) rfl (rfl : (1 : Int32) = nI 1)) (by omega)).symm)) (gn (gn gz))))))))))
  · skip
    intro τ' fr m1 m0 m_lostOnes m_tried kp
    have hM : isM _ y g A := ⟨m0, m1⟩
    refine Ev.iload rfl rfl ?_
    refine Ev.iload rfl rfl ?_
    refine Ev.jge (tgt := 63) rfl (by decide) (fun c18 => ?_) (fun c18 => absurd c18 (nI_nlt (Nat.le_refl _) (by omega)))
    refine Ev.iconst (v := 1) rfl (by decide) ?_
    refine Ev.istore rfl rfl rfl ?_
    refine Ev.iconst (v := 0) rfl (by decide) ?_
    refine Ev.istore rfl rfl rfl ?_
    refine Ev.fg (L := [some (.ref y), some (.int (nI s)), some (.int (nI p)), some (.int tc), none, some (.int (nI P.1)), some (.int (nI r0)), some (.int (1 : Int32)), some (.int (nI 0)), none]) ?_ (gs rfl (gs rfl (gs rfl (gs rfl (gn (gs rfl (gs rfl (gs rfl (gs (congrArg Value.int (rfl : (0 : Int32) = nI 0).symm) (gn gz))))))))))
    refine lpe (fun (k : Nat) (z : Nat × Int32 × (Nat → Int32)) => (z.1 < 2 ^ 31) → ∀ τ' : ex_S, frm σ τ' y (y + 17) → τ'.2 (y + 1) = some (.inl (0, 4500, A)) → τ'.2 y = some (.inr (.inr (10, mo y g))) → τ'.2 (y + 11) = some (.inl (0, 16, v_lostOnes)) → τ'.2 (y + 8) = some (.inl (0, 6, z.2.2)) → (∀ q, q ≠ y + 8 → τ'.2 q = σ.2 q) → Ev Γ 0 0 m_M_spreads 0 0 69 [some (.ref y), some (.int (nI s)), some (.int (nI p)), some (.int tc), none, some (.int (nI P.1)), some (.int (nI z.1)), some (.int z.2.1), some (.int (nI k)), none] [] τ' Q) (fun (r : Int32 × (Nat → Int32)) => ∀ τ' : ex_S, frm σ τ' y (y + 17) → τ'.2 (y + 1) = some (.inl (0, 4500, A)) → τ'.2 y = some (.inr (.inr (10, mo y g))) → τ'.2 (y + 11) = some (.inl (0, 16, v_lostOnes)) → τ'.2 (y + 8) = some (.inl (0, 6, r.2)) → (∀ q, q ≠ y + 8 → τ'.2 q = σ.2 q) → Ev Γ 0 0 m_M_spreads 0 0 216 [none, none, none, none, none, none, none, some (.int r.1), none, none] [] τ' Q) (F_m_spreads_69 S P tc r0 n0 g v_lostOnes v_tried) (n0) (fun k z hk hx he => ?_) (n0) 0 (r0, (1 : Int32), (fo (F_m_spreads_14 S P tc r0 n0 g v_lostOnes v_tried) (P.1) 0 v_tried)) (by omega) (fun zx hzx => ?_) (fun rx hrx => ?_) (hr0) τ' fr m1 m0 m_lostOnes m_tried kp
    · skip
      intro hI
      intro τ' fr m1 m0 m_lostOnes m_tried kp
      have hM : isM _ y g A := ⟨m0, m1⟩
      refine Ev.iload rfl rfl ?_
      refine Ev.aload_n rfl rfl ?_
      refine Ev.getf rfl rfl m0 rfl ?_
      refine Ev.jge (tgt := 216) rfl (by decide) (fun c75 => absurd (ltN hk hlo (by omega)) c75) (fun c75 => ?_)
      refine Ev.iload rfl rfl ?_
      refine Ev.zeq (tgt := 216) rfl (by decide) (fun c80 => ?_) (fun c80 => ?_)
      · skip
        have hF : (F_m_spreads_69 S P tc r0 n0 g v_lostOnes v_tried) k z = .inr (z.2.1, z.2.2) := by
          unfold F_m_spreads_69
          rw [if_pos c80]
        exact (he _ hF τ' fr m1 m0 m_lostOnes m_tried kp).fg (gn (gn (gn (gn (gn (gn (gn (gs rfl (gn (gn gz))))))))))
      · skip
        refine Ev.iload rfl rfl ?_
        refine Ev.iload rfl rfl ?_
        refine Ev.iconst (v := 1) rfl (by decide) ?_
        refine Ev.iadd rfl ?_
        refine Ev.irem rfl (np1 (by omega)) ?_
        rw [show (nI z.1) - (nI z.1) / ((nI P.1) + (1 : Int32)) * ((nI P.1) + (1 : Int32)) = nI (z.1 % (P.1 + 1)) from nq_rem rfl (nq_add (a := P.1) (b := 1) rfl (rfl : (1 : Int32) = nI 1)) (by omega) (by omega) (by omega)]
        refine Ev.istore rfl rfl rfl ?_
        refine Ev.iload rfl rfl ?_
        refine Ev.iload rfl rfl ?_
        refine Ev.iconst (v := 1) rfl (by decide) ?_
        refine Ev.iadd rfl ?_
        refine Ev.idiv rfl (np1 (by omega)) ?_
        rw [show (nI z.1) / ((nI P.1) + (1 : Int32)) = nI (z.1 / (P.1 + 1)) from nq_div rfl (nq_add (a := P.1) (b := 1) rfl (rfl : (1 : Int32) = nI 1)) (by omega) (by omega) (by omega)]
        refine Ev.istore rfl rfl rfl ?_
        refine Ev.iload rfl rfl ?_
        refine Ev.iload rfl rfl ?_
        refine Ev.jne (tgt := 111) rfl (by decide) (fun c105 => ?_) (fun c105 => ?_)
        · skip
          have hlt : z.1 % (P.1 + 1) < P.1 := by
            have h1 := Nat.mod_lt z.1 (show 0 < P.1 + 1 by omega)
            have h2 : z.1 % (P.1 + 1) ≠ P.1 := fun e => c105 (by rw [e])
            omega
          refine Ev.aload_n rfl rfl ?_
          refine Ev.getf rfl rfl m0 rfl ?_
          refine Ev.aload_n rfl rfl ?_
          refine Ev.iload_n rfl rfl ?_
          refine Ev.iload rfl rfl ?_
          refine Ev.cV2 rfl rfl m0 rfl rfl (by decide) ⟨(Nat.le_refl _), (Nat.le_refl _)⟩ (m_classAt_ok hM (z.1 % (P.1 + 1))) ?_
          refine Ev.iconst (v := 1) rfl (by decide) ?_
          refine Ev.iadd rfl ?_
          refine Ev.ialdN (k := 970 + 40 * p + 1 + 6 * (z.1 % (P.1 + 1)) + 1) rfl m1 (nq_to (a := 970 + 40 * p + 1 + 6 * (z.1 % (P.1 + 1)) + 1) (nq_add (a := 970 + 40 * p + 1 + 6 * (z.1 % (P.1 + 1))) (b := 1) rfl (rfl : (1 : Int32) = nI 1)) (by omega)) ⟨(by omega), by decide⟩ ?_
          rw [show A (970 + 40 * p + 1 + 6 * (z.1 % (P.1 + 1)) + 1) = _ from hP.2 (z.1 % (P.1 + 1)) (by omega) 1 (by decide)]
          have hqb := (goT_cl (hgo (z.1 % (P.1 + 1)) (by omega)).1).2
          refine Ev.iload_n rfl rfl ?_
          refine Ev.jeq (tgt := 155) rfl (by decide) (fun c126 => ?_) (fun c126 => ?_)
          · skip
            refine Ev.iconst (v := 0) rfl (by decide) ?_
            refine Ev.istore rfl rfl rfl ?_
            refine Ev.aload_n rfl rfl ?_
            refine Ev.getf rfl rfl m0 rfl ?_
            refine Ev.iload rfl rfl ?_
            refine Ev.dup2 rfl rfl rfl ?_
            refine Ev.ialdN (k := z.1 % (P.1 + 1)) rfl m_tried rfl ⟨(by omega), by decide⟩ ?_
            refine Ev.iconst (v := 1) rfl (by decide) ?_
            refine Ev.aload_n rfl rfl ?_
            refine Ev.getf rfl rfl m0 rfl ?_
            refine Ev.iload rfl rfl ?_
            refine Ev.ialdN (k := k) rfl m_lostOnes rfl ⟨(by omega), by decide⟩ ?_
            have hlq := (hlos k (by omega)).2
            rw [(hlos k (by omega)).1]
            refine Ev.ishl rfl ?_
            refine Ev.ior rfl ?_
            refine Ev.iastE (k := z.1 % (P.1 + 1)) rfl m_tried rfl ⟨(by omega), by decide⟩ (fun τ3 f1 m_tried => ?_)
            have m1 := frm.cell f1 m1 (by omega)
            have m0 := frm.cell f1 m0 (by omega)
            have m_lostOnes := frm.cell f1 m_lostOnes (by omega)
            have kp : (∀ q, q ≠ y + 8 → τ3.2 q = σ.2 q) := fun q n0 => (f1.2 q (by omega)).trans (kp q n0)
            have fr := fr.step f1 (by omega) (by omega)
            have hM : isM _ y g A := ⟨m0, m1⟩
            refine Ev.iload rfl rfl ?_
            refine Ev.zeq (tgt := 207) rfl (by decide) (fun c179 => ?_) (fun c179 => absurd (by decide) c179)
            refine Ev.iconst (v := 0) rfl (by decide) ?_
            refine Ev.istore rfl rfl rfl ?_
            refine Ev.iinc (d := 1) rfl rfl rfl (by decide) rfl ?_
            refine Ev.goto (tgt := 69) rfl (by decide) ?_
            have hF : (F_m_spreads_69 S P tc r0 n0 g v_lostOnes v_tried) k z = .inl (z.1 / (P.1 + 1), (0 : Int32), (upd z.2.2 (z.1 % (P.1 + 1)) ((z.2.2 (z.1 % (P.1 + 1))) ||| ((1 : Int32) <<< ((nI ((v_lostOnes k).toNatClampNeg)) &&& 31))))) := by
              unfold F_m_spreads_69
              rw [if_neg c80]
              rw [if_neg c105]
              rw [if_pos c126]
            exact (hx _ hF (by show (z.1 / (P.1 + 1) < 2 ^ 31); exact Nat.lt_of_le_of_lt (Nat.div_le_self _ _) hI) τ3 fr m1 m0 m_lostOnes m_tried kp).fg (gs rfl (gs rfl (gs rfl (gs rfl (gn (gs rfl (gs rfl (gs rfl (gs (congrArg Value.int (show nI (k + 1) = (nI k) + (1 : Int32) from (nq_to (a := k + 1) (nq_add (a := k) (b := 1) rfl (rfl : (1 : Int32) = nI 1)) (by omega)).symm)) (gn gz))))))))))
          · skip
            refine Ev.aload_n rfl rfl ?_
            refine Ev.iload_n rfl rfl ?_
            refine Ev.aload_n rfl rfl ?_
            refine Ev.iload_n rfl rfl ?_
            refine Ev.iload rfl rfl ?_
            refine Ev.cV2 rfl rfl m0 rfl rfl (by decide) ⟨(Nat.le_refl _), (Nat.le_refl _)⟩ (m_classAt_ok hM (z.1 % (P.1 + 1))) ?_
            refine Ev.aload_n rfl rfl ?_
            refine Ev.getf rfl rfl m0 rfl ?_
            refine Ev.iload rfl rfl ?_
            refine Ev.ialdN (k := k) rfl m_lostOnes rfl ⟨(by omega), by decide⟩ ?_
            have hlq := (hlos k (by omega)).2
            rw [(hlos k (by omega)).1]
            refine Ev.cV3 rfl rfl m0 rfl rfl (by decide) ⟨(Nat.le_refl _), (Nat.le_refl _)⟩ (m_can_ok hM hS hs hwS (hP.2 (z.1 % (P.1 + 1)) (by omega)) (by omega) ((v_lostOnes k).toNatClampNeg) (by omega)) ?_
            refine Ev.zeq (tgt := 155) rfl (by decide) (fun c148 => ?_) (fun c148 => ?_)
            · skip
              refine Ev.iconst (v := 0) rfl (by decide) ?_
              refine Ev.istore rfl rfl rfl ?_
              refine Ev.aload_n rfl rfl ?_
              refine Ev.getf rfl rfl m0 rfl ?_
              refine Ev.iload rfl rfl ?_
              refine Ev.dup2 rfl rfl rfl ?_
              refine Ev.ialdN (k := z.1 % (P.1 + 1)) rfl m_tried rfl ⟨(by omega), by decide⟩ ?_
              refine Ev.iconst (v := 1) rfl (by decide) ?_
              refine Ev.aload_n rfl rfl ?_
              refine Ev.getf rfl rfl m0 rfl ?_
              refine Ev.iload rfl rfl ?_
              refine Ev.ialdN (k := k) rfl m_lostOnes rfl ⟨(by omega), by decide⟩ ?_
              have hlq := (hlos k (by omega)).2
              rw [(hlos k (by omega)).1]
              refine Ev.ishl rfl ?_
              refine Ev.ior rfl ?_
              refine Ev.iastE (k := z.1 % (P.1 + 1)) rfl m_tried rfl ⟨(by omega), by decide⟩ (fun τ4 f1 m_tried => ?_)
              have m1 := frm.cell f1 m1 (by omega)
              have m0 := frm.cell f1 m0 (by omega)
              have m_lostOnes := frm.cell f1 m_lostOnes (by omega)
              have kp : (∀ q, q ≠ y + 8 → τ4.2 q = σ.2 q) := fun q n0 => (f1.2 q (by omega)).trans (kp q n0)
              have fr := fr.step f1 (by omega) (by omega)
              have hM : isM _ y g A := ⟨m0, m1⟩
              refine Ev.iload rfl rfl ?_
              refine Ev.zeq (tgt := 207) rfl (by decide) (fun c179 => ?_) (fun c179 => absurd (by decide) c179)
              refine Ev.iconst (v := 0) rfl (by decide) ?_
              refine Ev.istore rfl rfl rfl ?_
              refine Ev.iinc (d := 1) rfl rfl rfl (by decide) rfl ?_
              refine Ev.goto (tgt := 69) rfl (by decide) ?_
              have hF : (F_m_spreads_69 S P tc r0 n0 g v_lostOnes v_tried) k z = .inl (z.1 / (P.1 + 1), (0 : Int32), (upd z.2.2 (z.1 % (P.1 + 1)) ((z.2.2 (z.1 % (P.1 + 1))) ||| ((1 : Int32) <<< ((nI ((v_lostOnes k).toNatClampNeg)) &&& 31))))) := by
                unfold F_m_spreads_69
                rw [if_neg c80]
                rw [if_neg c105]
                rw [if_neg c126]
                rw [if_pos c148]
              exact (hx _ hF (by show (z.1 / (P.1 + 1) < 2 ^ 31); exact Nat.lt_of_le_of_lt (Nat.div_le_self _ _) hI) τ4 fr m1 m0 m_lostOnes m_tried kp).fg (gs rfl (gs rfl (gs rfl (gs rfl (gn (gs rfl (gs rfl (gs rfl (gs (congrArg Value.int (show nI (k + 1) = (nI k) + (1 : Int32) from (nq_to (a := k + 1) (nq_add (a := k) (b := 1) rfl (rfl : (1 : Int32) = nI 1)) (by omega)).symm)) (gn gz))))))))))
            · skip
              refine Ev.iconst (v := 1) rfl (by decide) ?_
              refine Ev.goto (tgt := 156) rfl (by decide) ?_
              refine Ev.istore rfl rfl rfl ?_
              refine Ev.aload_n rfl rfl ?_
              refine Ev.getf rfl rfl m0 rfl ?_
              refine Ev.iload rfl rfl ?_
              refine Ev.dup2 rfl rfl rfl ?_
              refine Ev.ialdN (k := z.1 % (P.1 + 1)) rfl m_tried rfl ⟨(by omega), by decide⟩ ?_
              refine Ev.iconst (v := 1) rfl (by decide) ?_
              refine Ev.aload_n rfl rfl ?_
              refine Ev.getf rfl rfl m0 rfl ?_
              refine Ev.iload rfl rfl ?_
              refine Ev.ialdN (k := k) rfl m_lostOnes rfl ⟨(by omega), by decide⟩ ?_
              have hlq := (hlos k (by omega)).2
              rw [(hlos k (by omega)).1]
              refine Ev.ishl rfl ?_
              refine Ev.ior rfl ?_
              refine Ev.iastE (k := z.1 % (P.1 + 1)) rfl m_tried rfl ⟨(by omega), by decide⟩ (fun τ5 f1 m_tried => ?_)
              have m1 := frm.cell f1 m1 (by omega)
              have m0 := frm.cell f1 m0 (by omega)
              have m_lostOnes := frm.cell f1 m_lostOnes (by omega)
              have kp : (∀ q, q ≠ y + 8 → τ5.2 q = σ.2 q) := fun q n0 => (f1.2 q (by omega)).trans (kp q n0)
              have fr := fr.step f1 (by omega) (by omega)
              have hM : isM _ y g A := ⟨m0, m1⟩
              refine Ev.iload rfl rfl ?_
              refine Ev.zeq (tgt := 207) rfl (by decide) (fun c179 => absurd c179 (by decide)) (fun c179 => ?_)
              refine Ev.aload_n rfl rfl ?_
              refine Ev.getf rfl rfl m0 rfl ?_
              refine Ev.iload rfl rfl ?_
              refine Ev.ialdN (k := z.1 % (P.1 + 1)) rfl m_tried rfl ⟨(by omega), by decide⟩ ?_
              rw [show (upd z.2.2 (z.1 % (P.1 + 1)) ((z.2.2 (z.1 % (P.1 + 1))) ||| ((1 : Int32) <<< ((nI ((v_lostOnes k).toNatClampNeg)) &&& 31)))) (z.1 % (P.1 + 1)) = (z.2.2 (z.1 % (P.1 + 1))) ||| ((1 : Int32) <<< ((nI ((v_lostOnes k).toNatClampNeg)) &&& 31)) from pk_us]
              refine Ev.cS1 rfl rfl rfl (by decide) ⟨(Nat.le_refl _), (Nat.le_refl _)⟩ (m_many_ok _) ?_
              refine Ev.aload_n rfl rfl ?_
              refine Ev.getf rfl rfl m0 rfl ?_
              refine Ev.iload_n rfl rfl ?_
              refine Ev.iconst (v := 5) rfl (by decide) ?_
              refine Ev.iadd rfl ?_
              refine Ev.ialdN (k := s + 5) rfl m1 (nq_to (a := s + 5) (nq_add (a := s) (b := 5) rfl (rfl : (5 : Int32) = nI 5)) (by omega)) ⟨(by omega), by decide⟩ ?_
              rw [show A (s + 5) = _ from hS.2.2.1 3 (by decide)]
              refine Ev.jgt (tgt := 207) rfl (by decide) (fun c200 => ?_) (fun c200 => ?_)
              · skip
                refine Ev.iconst (v := 0) rfl (by decide) ?_
                refine Ev.istore rfl rfl rfl ?_
                refine Ev.iinc (d := 1) rfl rfl rfl (by decide) rfl ?_
                refine Ev.goto (tgt := 69) rfl (by decide) ?_
                have hF : (F_m_spreads_69 S P tc r0 n0 g v_lostOnes v_tried) k z = .inl (z.1 / (P.1 + 1), (0 : Int32), (upd z.2.2 (z.1 % (P.1 + 1)) ((z.2.2 (z.1 % (P.1 + 1))) ||| ((1 : Int32) <<< ((nI ((v_lostOnes k).toNatClampNeg)) &&& 31))))) := by
                  unfold F_m_spreads_69
                  rw [if_neg c80]
                  rw [if_neg c105]
                  rw [if_neg c126]
                  rw [if_neg c148]
                  rw [if_pos c200]
                exact (hx _ hF (by show (z.1 / (P.1 + 1) < 2 ^ 31); exact Nat.lt_of_le_of_lt (Nat.div_le_self _ _) hI) τ5 fr m1 m0 m_lostOnes m_tried kp).fg (gs rfl (gs rfl (gs rfl (gs rfl (gn (gs rfl (gs rfl (gs rfl (gs (congrArg Value.int (show nI (k + 1) = (nI k) + (1 : Int32) from (nq_to (a := k + 1) (nq_add (a := k) (b := 1) rfl (rfl : (1 : Int32) = nI 1)) (by omega)).symm)) (gn gz))))))))))
              · skip
                refine Ev.iconst (v := 1) rfl (by decide) ?_
                refine Ev.goto (tgt := 208) rfl (by decide) ?_
                refine Ev.istore rfl rfl rfl ?_
                refine Ev.iinc (d := 1) rfl rfl rfl (by decide) rfl ?_
                refine Ev.goto (tgt := 69) rfl (by decide) ?_
                have hF : (F_m_spreads_69 S P tc r0 n0 g v_lostOnes v_tried) k z = .inl (z.1 / (P.1 + 1), (1 : Int32), (upd z.2.2 (z.1 % (P.1 + 1)) ((z.2.2 (z.1 % (P.1 + 1))) ||| ((1 : Int32) <<< ((nI ((v_lostOnes k).toNatClampNeg)) &&& 31))))) := by
                  unfold F_m_spreads_69
                  rw [if_neg c80]
                  rw [if_neg c105]
                  rw [if_neg c126]
                  rw [if_neg c148]
                  rw [if_neg c200]
                exact (hx _ hF (by show (z.1 / (P.1 + 1) < 2 ^ 31); exact Nat.lt_of_le_of_lt (Nat.div_le_self _ _) hI) τ5 fr m1 m0 m_lostOnes m_tried kp).fg (gs rfl (gs rfl (gs rfl (gs rfl (gn (gs rfl (gs rfl (gs rfl (gs (congrArg Value.int (show nI (k + 1) = (nI k) + (1 : Int32) from (nq_to (a := k + 1) (nq_add (a := k) (b := 1) rfl (rfl : (1 : Int32) = nI 1)) (by omega)).symm)) (gn gz))))))))))
        · skip
          refine Ev.goto (tgt := 210) rfl (by decide) ?_
          refine Ev.iinc (d := 1) rfl rfl rfl (by decide) rfl ?_
          refine Ev.goto (tgt := 69) rfl (by decide) ?_
          have hF : (F_m_spreads_69 S P tc r0 n0 g v_lostOnes v_tried) k z = .inl (z.1 / (P.1 + 1), z.2.1, z.2.2) := by
            unfold F_m_spreads_69
            rw [if_neg c80]
            rw [if_pos c105]
          exact (hx _ hF (by show (z.1 / (P.1 + 1) < 2 ^ 31); exact Nat.lt_of_le_of_lt (Nat.div_le_self _ _) hI) τ' fr m1 m0 m_lostOnes m_tried kp).fg (gs rfl (gs rfl (gs rfl (gs rfl (gn (gs rfl (gs rfl (gs rfl (gs (congrArg Value.int (show nI (k + 1) = (nI k) + (1 : Int32) from (nq_to (a := k + 1) (nq_add (a := k) (b := 1) rfl (rfl : (1 : Int32) = nI 1)) (by omega)).symm)) (gn gz))))))))))
    · skip
      intro hI
      intro τ' fr m1 m0 m_lostOnes m_tried kp
      have hM : isM _ y g A := ⟨m0, m1⟩
      refine Ev.iload rfl rfl ?_
      refine Ev.aload_n rfl rfl ?_
      refine Ev.getf rfl rfl m0 rfl ?_
      refine Ev.jge (tgt := 216) rfl (by decide) (fun c75 => ?_) (fun c75 => absurd c75 (nltN hlo (by omega)))
      refine Ev.iload rfl rfl ?_
      refine Ev.iret (ty := .boolean) rfl rfl (by first | exact nle_bool _ (spr01.1 _ hzx) | exact nle_bool _ (spr01.2 _ hrx)) (Nat.le_refl _) (Nat.le_refl _) ?_
      have hK : (K_m_spreads S P tc r0 n0 g v_lostOnes v_tried) = (zx.2.1, zx.2.2) := by
        unfold K_m_spreads
        rw [hzx, Sum.elim_inl]
      rw [← hQ]
      dsimp only
      rw [hK]
      exact ⟨rfl, fr, m_tried, kp⟩
    · skip
      intro τ' fr m1 m0 m_lostOnes m_tried kp
      have hM : isM _ y g A := ⟨m0, m1⟩
      refine Ev.iload rfl rfl ?_
      refine Ev.iret (ty := .boolean) rfl rfl (by first | exact nle_bool _ (spr01.1 _ hzx) | exact nle_bool _ (spr01.2 _ hrx)) (Nat.le_refl _) (Nat.le_refl _) ?_
      have hK : (K_m_spreads S P tc r0 n0 g v_lostOnes v_tried) = (rx.1, rx.2) := by
        unfold K_m_spreads
        rw [hrx, Sum.elim_inr]
      rw [← hQ]
      dsimp only
      rw [hK]
      exact ⟨rfl, fr, m_tried, kp⟩
end
end
