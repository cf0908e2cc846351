/-! The line of a school (reference): what stretches are worth, the tables (printed by sym.py). -/
noncomputable section
theorem dn_start {L : Nat} : nI (L + 1 - 0) - 1 = nI L := by
  show nI (L + 1) - 1 = nI L
  rw [nI_pred]
theorem ln_c {n f m : Nat} {v : Int32} (h : ¬ nI n < v) (e : v = nI f + nI m) (hb : n < 1000 ∧ f + m < 1000) : f + m ≤ n := by
  subst e
  refine Nat.le_of_not_lt (fun c => h ?_)
  rw [nI_add]
  exact nI_lt c (by omega)
section
variable {Γ : ex_G} {σ : ex_S} {x q a p y : Nat} {S : Sch} {T : Tol} {P : Pln} {g A : Nat → Int32}
def F_m_stretch_19 (S : Sch) (f n : Nat) (g : Nat → Int32) (v_along : Nat → Int32) (k : Nat) (z : Int32 × (Nat → Int32)) : Nat → Int32 → Int32 := fun k' z' => z' + (((K_base S (nI k) (S.2.2 0 ((v_along k').toNatClampNeg))) * (K_part S (nI n))) / (100 : Int32))
def F_m_stretch_6 (S : Sch) (f n : Nat) (g : Nat → Int32) (v_along : Nat → Int32) : Nat → (Int32 × (Nat → Int32)) → (Int32 × (Nat → Int32)) := fun k z => if z.1 < (fo (F_m_stretch_19 S f n g v_along k z) ((f + n) - f) f (0 : Int32)) then ((fo (F_m_stretch_19 S f n g v_along k z) ((f + n) - f) f (0 : Int32)), (upd z.2 16 (nI k))) else (z.1, z.2)
def K_m_stretch (S : Sch) (f n : Nat) (g : Nat → Int32) (v_along : Nat → Int32) : Int32 × (Nat → Int32) := ((fo (F_m_stretch_6 S f n g v_along) (12) 0 ((-1 : Int32), g)).1, (fo (F_m_stretch_6 S f n g v_along) (12) 0 ((-1 : Int32), g)).2)
theorem m_stretch_ok (hM : isM σ y g A) {s : Nat} (hS : mS A s S) (hs : s + 120 ≤ 4500) (hwS : wS S) {v_along : Nat → Int32} (m_along : σ.2 (y + 4) = some (.inl (0, 16, v_along))) {f n : Nat} (hfn : f + n ≤ S.1) (hal : okR S S.1 v_along) : RetX Γ m_M_stretch [(.ref y), (.int (nI s)), (.int (nI f)), (.int (nI n))] σ y (y + 17) (some (.int ((K_m_stretch S f n g v_along).1))) (fun τ => τ.2 y = some (.inr (.inr (10, mo y ((K_m_stretch S f n g v_along).2)))) ∧ (∀ q, q ≠ y → τ.2 q = σ.2 q)) := by
  obtain ⟨m0, m1⟩ := id hM
  have hn16 := hwS.1
  have hn5 := hwS.2.1
  unfold RetX
  generalize hQ : (fun (r : Option Value) (τ : ex_S) => r = some (.int ((K_m_stretch S f n g v_along).1)) ∧ frm σ τ y (y + 17) ∧ (fun τ : ex_S => τ.2 y = some (.inr (.inr (10, mo y ((K_m_stretch S f n g v_along).2)))) ∧ (∀ q, q ≠ y → τ.2 q = σ.2 q)) τ) = Q
  refine Ret.start pm_224 rfl ?_
  have fr : frm σ σ y (y + 17) := frm.rf
  have kp : (∀ q, q ≠ y → σ.2 q = σ.2 q) := fun _ _ => rfl
  have hM : isM _ y g A := ⟨m0, m1⟩
  refine Ev.iconst (v := (-1)) rfl (by decide) ?_
  refine Ev.istore rfl rfl rfl ?_
  refine Ev.iconst (v := 0) rfl (by decide) ?_
  refine Ev.istore rfl rfl rfl ?_
  refine Ev.fg (L := [some (.ref y), some (.int (nI s)), some (.int (nI f)), some (.int (nI n)), some (.int (-1 : Int32)), some (.int (nI 0)), none, none]) ?_ (gs rfl (gs rfl (gs rfl (gs rfl (gs rfl (gs (congrArg Value.int (rfl : (0 : Int32) = nI 0).symm) (gn (gn gz))))))))
  refine lp (fun (k : Nat) (z : Int32 × (Nat → Int32)) => ∀ τ' : ex_S, frm σ τ' y (y + 17) → τ'.2 (y + 1) = some (.inl (0, 4500, A)) → τ'.2 y = some (.inr (.inr (10, mo y z.2))) → τ'.2 (y + 4) = some (.inl (0, 16, v_along)) → (∀ q, q ≠ y → τ'.2 q = σ.2 q) → Ev Γ 0 0 m_M_stretch 0 0 6 [some (.ref y), some (.int (nI s)), some (.int (nI f)), some (.int (nI n)), some (.int z.1), some (.int (nI k)), none, none] [] τ' Q) (F_m_stretch_6 S f n g v_along) (12) (fun k z hk hx => ?_) (12) 0 ((-1 : Int32), g) (by omega) ?_ σ fr m1 m0 m_along kp
  · skip
    intro τ' fr m1 m0 m_along kp
    have hM : isM _ y z.2 A := ⟨m0, m1⟩
    refine Ev.iload rfl rfl ?_
    refine Ev.bipush (v := 12) rfl (by decide) ?_
    refine Ev.jge (tgt := 93) rfl (by decide) (fun c10 => absurd (nI_lt hk (by omega)) c10) (fun c10 => ?_)
    refine Ev.iconst (v := 0) rfl (by decide) ?_
    refine Ev.istore rfl rfl rfl ?_
    refine Ev.iload_n rfl rfl ?_
    refine Ev.istore rfl rfl rfl ?_
    refine Ev.fg (L := [some (.ref y), some (.int (nI s)), some (.int (nI f)), some (.int (nI n)), some (.int z.1), some (.int (nI k)), some (.int (0 : Int32)), some (.int (nI f))]) ?_ (gs rfl (gs rfl (gs rfl (gs rfl (gs rfl (gs rfl (gs rfl (gs rfl gz))))))))
    refine lp (fun (k' : Nat) (z' : Int32) => (f ≤ k') → Ev Γ 0 0 m_M_stretch 0 0 19 [some (.ref y), some (.int (nI s)), some (.int (nI f)), some (.int (nI n)), some (.int z.1), some (.int (nI k)), some (.int z'), some (.int (nI k'))] [] τ' Q) (F_m_stretch_19 S f n g v_along k z) (f + n) (fun k' z' hk' hx' => ?_) ((f + n) - f) f (0 : Int32) (by omega) ?_ (Nat.le_refl _)
    · skip
      intro hI'
      refine Ev.iload rfl rfl ?_
      refine Ev.iload_n rfl rfl ?_
      refine Ev.iload_n rfl rfl ?_
      refine Ev.iadd rfl ?_
      refine Ev.jge (tgt := 67) rfl (by decide) (fun c24 => absurd (ltN hk' (nq_add (a := f) (b := n) rfl rfl) (by omega)) c24) (fun c24 => ?_)
      refine Ev.iload rfl rfl ?_
      refine Ev.aload_n rfl rfl ?_
      refine Ev.iload_n rfl rfl ?_
      refine Ev.iload rfl rfl ?_
      refine Ev.aload_n rfl rfl ?_
      refine Ev.iload_n rfl rfl ?_
      refine Ev.aload_n rfl rfl ?_
      refine Ev.getf rfl rfl m0 rfl ?_
      refine Ev.iload rfl rfl ?_
      refine Ev.ialdN (k := k') rfl m_along rfl ⟨(by omega), by decide⟩ ?_
      have hql := (hal k' (by omega)).2
      rw [(hal k' (by omega)).1]
      refine Ev.cV2 rfl rfl m0 rfl rfl (by decide) ⟨(Nat.le_refl _), (Nat.le_refl _)⟩ (m_step_ok hM hS hs hwS ((v_along k').toNatClampNeg) (by omega)) ?_
      refine Ev.cV3 rfl rfl m0 rfl rfl (by decide) ⟨(Nat.le_refl _), (Nat.le_refl _)⟩ (m_base_ok hM hS hs _ _ (bd1 (rg_nI (by omega) (by omega) (by omega)) (hwS.2.2.1 _ (by omega)).1) (bd2 (rg_nI (by omega) (by omega) (by omega)) (hwS.2.2.1 _ (by omega)).1)) ?_
      refine Ev.aload_n rfl rfl ?_
      refine Ev.iload_n rfl rfl ?_
      refine Ev.iload_n rfl rfl ?_
      refine Ev.cV2 rfl rfl m0 rfl rfl (by decide) ⟨(Nat.le_refl _), (Nat.le_refl _)⟩ (m_leaves_W hM hS hs hwS ⟨n, by omega, rfl⟩) ?_
      refine Ev.imul rfl ?_
      refine Ev.bipush (v := 100) rfl (by decide) ?_
      refine Ev.idiv rfl (by decide) ?_
      refine Ev.iadd rfl ?_
      refine Ev.istore rfl rfl rfl ?_
      refine Ev.iinc (d := 1) rfl rfl rfl (by decide) rfl ?_
      refine Ev.goto (tgt := 19) rfl (by decide) ?_
      have hF : (F_m_stretch_19 S f n g v_along k z) k' z' = z' + (((K_base S (nI k) (S.2.2 0 ((v_along k').toNatClampNeg))) * (K_part S (nI n))) / (100 : Int32)) := by rfl
      rw [hF] at hx'
      exact (hx' (by show (f ≤ k' + 1); omega)).fg (gs rfl (gs rfl (gs rfl (gs rfl (gs rfl (gs rfl (gs rfl (gs (congrArg Value.int (show nI (k' + 1) = (nI k') + (1 : Int32) from (nq_to (a := k' + 1) (nq_add (a := k') (b := 1) rfl (rfl : (1 : Int32) = nI 1)) (by omega)).symm)) gz))))))))
    · skip
      intro hI'
      refine Ev.iload rfl rfl ?_
      refine Ev.iload_n rfl rfl ?_
      refine Ev.iload_n rfl rfl ?_
      refine Ev.iadd rfl ?_
      refine Ev.jge (tgt := 67) rfl (by decide) (fun c24 => ?_) (fun c24 => absurd c24 (nltN (nq_add (a := f) (b := n) rfl rfl) (by omega)))
      refine Ev.iload rfl rfl ?_
      refine Ev.iload rfl rfl ?_
      refine Ev.jgt (tgt := 77) rfl (by decide) (fun c71 => ?_) (fun c71 => ?_)
      · skip
        refine Ev.iload rfl rfl ?_
        refine Ev.istore rfl rfl rfl ?_
        refine Ev.aload_n rfl rfl ?_
        refine Ev.iload rfl rfl ?_
        refine Ev.putE rfl rfl m0 rfl rfl rfl (Nat.le_of_ble_eq_true rfl) (fun τ1 f1 q1 => ?_)
        have m0 : τ1.2 y = some (.inr (.inr (10, mo y (upd z.2 16 (nI k))))) := q1
        have m1 := frm.cell f1 m1 (by omega)
        have m_along := frm.cell f1 m_along (by omega)
        have kp : (∀ q, q ≠ y → τ1.2 q = σ.2 q) := fun q n0 => (f1.2 q (by omega)).trans (kp q n0)
        have fr := fr.step f1 (by omega) (by omega)
        have hM : isM _ y (upd z.2 16 (nI k)) A := ⟨m0, m1⟩
        refine Ev.iinc (d := 1) rfl rfl rfl (by decide) rfl ?_
        refine Ev.goto (tgt := 6) rfl (by decide) ?_
        have hF : (F_m_stretch_6 S f n g v_along) k z = ((fo (F_m_stretch_19 S f n g v_along k z) ((f + n) - f) f (0 : Int32)), (upd z.2 16 (nI k))) := by
          unfold F_m_stretch_6
          rw [if_pos c71]
        rw [hF] at hx
        exact (hx τ1 fr m1 m0 m_along kp).fg (gs rfl (gs rfl (gs rfl (gs rfl (gs rfl (gs (congrArg Value.int (show nI (k + 1) = (nI k) + (1 : Int32) from (nq_to (a := k + 1) (nq_add (a := k) (b := 1) rfl (rfl : (1 : Int32) = nI 1)) (by omega)).symm)) (gn (gn gz))))))))
      · skip
        refine Ev.goto (tgt := 87) rfl (by decide) ?_
        refine Ev.iinc (d := 1) rfl rfl rfl (by decide) rfl ?_
        refine Ev.goto (tgt := 6) rfl (by decide) ?_
        have hF : (F_m_stretch_6 S f n g v_along) k z = (z.1, z.2) := by
          unfold F_m_stretch_6
          rw [if_neg c71]
        rw [hF] at hx
        exact (hx τ' fr m1 m0 m_along kp).fg (gs rfl (gs rfl (gs rfl (gs rfl (gs rfl (gs (congrArg Value.int (show nI (k + 1) = (nI k) + (1 : Int32) from (nq_to (a := k + 1) (nq_add (a := k) (b := 1) rfl (rfl : (1 : Int32) = nI 1)) (by omega)).symm)) (gn (gn gz))))))))
  · skip
    intro τ' fr m1 m0 m_along kp
    have hM : isM _ y ((fo (F_m_stretch_6 S f n g v_along) (12) 0 ((-1 : Int32), g)).2) A := ⟨m0, m1⟩
    refine Ev.iload rfl rfl ?_
    refine Ev.bipush (v := 12) rfl (by decide) ?_
    refine Ev.jge (tgt := 93) rfl (by decide) (fun c10 => ?_) (fun c10 => absurd c10 (nI_nlt (Nat.le_refl _) (by omega)))
    refine Ev.iload rfl rfl ?_
    refine Ev.iret (ty := .int) rfl rfl rfl (Nat.le_refl _) (Nat.le_refl _) ?_
    have hK : (K_m_stretch S f n g v_along) = ((fo (F_m_stretch_6 S f n g v_along) (12) 0 ((-1 : Int32), g)).1, (fo (F_m_stretch_6 S f n g v_along) (12) 0 ((-1 : Int32), g)).2) := by rfl
    rw [← hQ]
    dsimp only
    rw [hK]
    exact ⟨rfl, fr, m0, kp⟩
def K_m_cut (S : Sch) (a0 f n : Nat) (g : Nat → Int32) (v_along : Nat → Int32) (v_bestSum : Nat → Int32) (v_bestMany : Nat → Int32) (v_bestSize : Nat → Int32) : (Nat → Int32) × (Nat → Int32) × (Nat → Int32) × (Nat → Int32) := if (v_bestSum (a0 - 17 + n)) < (0 : Int32) then (g, v_bestSum, v_bestMany, v_bestSize) else (if (((K_m_stretch S f n g v_along).1) + (v_bestSum (a0 - 17 + n))) < (v_bestSum a0) then ((K_m_stretch S f n g v_along).2, v_bestSum, v_bestMany, v_bestSize) else (if (((K_m_stretch S f n g v_along).1) + (v_bestSum (a0 - 17 + n))) = (v_bestSum a0) then (if ((1 : Int32) + (v_bestMany (a0 - 17 + n))) < (v_bestMany a0) then ((K_m_stretch S f n g v_along).2, (upd v_bestSum a0 (((K_m_stretch S f n g v_along).1) + (v_bestSum (a0 - 17 + n)))), (upd v_bestMany a0 ((1 : Int32) + (v_bestMany (a0 - 17 + n)))), (upd v_bestSize a0 (nI n))) else ((K_m_stretch S f n g v_along).2, v_bestSum, v_bestMany, v_bestSize)) else ((K_m_stretch S f n g v_along).2, (upd v_bestSum a0 (((K_m_stretch S f n g v_along).1) + (v_bestSum (a0 - 17 + n)))), (upd v_bestMany a0 ((1 : Int32) + (v_bestMany (a0 - 17 + n)))), (upd v_bestSize a0 (nI n)))))
theorem m_cut_ok (hM : isM σ y g A) {s : Nat} (hS : mS A s S) (hs : s + 120 ≤ 4500) (hwS : wS S) {v_along : Nat → Int32} (m_along : σ.2 (y + 4) = some (.inl (0, 16, v_along))) {v_bestSum : Nat → Int32} (m_bestSum : σ.2 (y + 5) = some (.inl (0, 119, v_bestSum))) {v_bestMany : Nat → Int32} (m_bestMany : σ.2 (y + 6) = some (.inl (0, 119, v_bestMany))) {v_bestSize : Nat → Int32} (m_bestSize : σ.2 (y + 7) = some (.inl (0, 119, v_bestSize))) {a0 f n : Nat} (h17 : 17 ≤ a0) (h119 : a0 < 119) (hat : a0 - 17 + n < 119) (hfn : f + n ≤ S.1) (hal : okR S S.1 v_along) : RetX Γ m_M_cut [(.ref y), (.int (nI s)), (.int (nI a0)), (.int (nI f)), (.int (nI n))] σ y (y + 17) none (fun τ => τ.2 y = some (.inr (.inr (10, mo y ((K_m_cut S a0 f n g v_along v_bestSum v_bestMany v_bestSize).1)))) ∧ τ.2 (y + 5) = some (.inl (0, 119, (K_m_cut S a0 f n g v_along v_bestSum v_bestMany v_bestSize).2.1)) ∧ τ.2 (y + 6) = some (.inl (0, 119, (K_m_cut S a0 f n g v_along v_bestSum v_bestMany v_bestSize).2.2.1)) ∧ τ.2 (y + 7) = some (.inl (0, 119, (K_m_cut S a0 f n g v_along v_bestSum v_bestMany v_bestSize).2.2.2)) ∧ (∀ q, q ≠ y → q ≠ y + 5 → q ≠ y + 6 → q ≠ y + 7 → τ.2 q = σ.2 q)) := by
  obtain ⟨m0, m1⟩ := id hM
  have hn16 := hwS.1
  have hn5 := hwS.2.1
  unfold RetX
  generalize hQ : (fun (r : Option Value) (τ : ex_S) => r = none ∧ frm σ τ y (y + 17) ∧ (fun τ : ex_S => τ.2 y = some (.inr (.inr (10, mo y ((K_m_cut S a0 f n g v_along v_bestSum v_bestMany v_bestSize).1)))) ∧ τ.2 (y + 5) = some (.inl (0, 119, (K_m_cut S a0 f n g v_along v_bestSum v_bestMany v_bestSize).2.1)) ∧ τ.2 (y + 6) = some (.inl (0, 119, (K_m_cut S a0 f n g v_along v_bestSum v_bestMany v_bestSize).2.2.1)) ∧ τ.2 (y + 7) = some (.inl (0, 119, (K_m_cut S a0 f n g v_along v_bestSum v_bestMany v_bestSize).2.2.2)) ∧ (∀ q, q ≠ y → q ≠ y + 5 → q ≠ y + 6 → q ≠ y + 7 → τ.2 q = σ.2 q)) τ) = Q
  refine Ret.start pm_226 rfl ?_
  have fr : frm σ σ y (y + 17) := frm.rf
  have kp : (∀ q, q ≠ y → q ≠ y + 5 → q ≠ y + 6 → q ≠ y + 7 → σ.2 q = σ.2 q) := fun _ _ _ _ _ => rfl
  have hM : isM _ y g A := ⟨m0, m1⟩
  refine Ev.iload_n rfl rfl ?_
  refine Ev.bipush (v := 17) rfl (by decide) ?_
  refine Ev.isub rfl ?_
  refine Ev.iload rfl rfl ?_
  refine Ev.iadd rfl ?_
  refine Ev.istore rfl rfl rfl ?_
  refine Ev.aload_n rfl rfl ?_
  refine Ev.getf rfl rfl m0 rfl ?_
  refine Ev.iload rfl rfl ?_
  refine Ev.ialdN (k := a0 - 17 + n) rfl m_bestSum (nq_add (a := a0 - 17) (b := n) (nq_sub (a := a0) (b := 17) rfl (rfl : (17 : Int32) = nI 17) (by omega)) rfl) ⟨(by omega), by decide⟩ ?_
  refine Ev.zge (tgt := 20) rfl (by decide) (fun c16 => ?_) (fun c16 => ?_)
  · skip
    refine Ev.aload_n rfl rfl ?_
    refine Ev.iload_n rfl rfl ?_
    refine Ev.iload_n rfl rfl ?_
    refine Ev.iload rfl rfl ?_
    refine Ev.xV3 rfl rfl m0 rfl rfl (by decide) ⟨(Nat.le_refl _), (Nat.le_refl _)⟩ (m_stretch_ok hM hS hs hwS m_along (by omega) hal) (fun τ1 f1 q1 => ?_)
    obtain ⟨m0, k1⟩ := q1
    have m1 := (k1 _ (by omega)).trans m1
    have m_along := (k1 _ (by omega)).trans m_along
    have m_bestSum := (k1 _ (by omega)).trans m_bestSum
    have m_bestMany := (k1 _ (by omega)).trans m_bestMany
    have m_bestSize := (k1 _ (by omega)).trans m_bestSize
    have kp : (∀ q, q ≠ y → q ≠ y + 5 → q ≠ y + 6 → q ≠ y + 7 → τ1.2 q = σ.2 q) := fun q n0 n1 n2 n3 => (k1 q (by omega)).trans (kp q n0 n1 n2 n3)
    have fr := fr.step f1 (by omega) (by omega)
    have hM : isM _ y ((K_m_stretch S f n g v_along).2) A := ⟨m0, m1⟩
    refine Ev.aload_n rfl rfl ?_
    refine Ev.getf rfl rfl m0 rfl ?_
    refine Ev.iload rfl rfl ?_
    refine Ev.ialdN (k := a0 - 17 + n) rfl m_bestSum (nq_add (a := a0 - 17) (b := n) (nq_sub (a := a0) (b := 17) rfl (rfl : (17 : Int32) = nI 17) (by omega)) rfl) ⟨(by omega), by decide⟩ ?_
    refine Ev.iadd rfl ?_
    refine Ev.istore rfl rfl rfl ?_
    refine Ev.iconst (v := 1) rfl (by decide) ?_
    refine Ev.aload_n rfl rfl ?_
    refine Ev.getf rfl rfl m0 rfl ?_
    refine Ev.iload rfl rfl ?_
    refine Ev.ialdN (k := a0 - 17 + n) rfl m_bestMany (nq_add (a := a0 - 17) (b := n) (nq_sub (a := a0) (b := 17) rfl (rfl : (17 : Int32) = nI 17) (by omega)) rfl) ⟨(by omega), by decide⟩ ?_
    refine Ev.iadd rfl ?_
    refine Ev.istore rfl rfl rfl ?_
    refine Ev.iload rfl rfl ?_
    refine Ev.aload_n rfl rfl ?_
    refine Ev.getf rfl rfl m0 rfl ?_
    refine Ev.iload_n rfl rfl ?_
    refine Ev.ialdN (k := a0) rfl m_bestSum rfl ⟨(by omega), by decide⟩ ?_
    refine Ev.jlt (tgt := 82) rfl (by decide) (fun c57 => ?_) (fun c57 => ?_)
    · skip
      refine Ev.ret rfl rfl (Nat.le_refl _) (Nat.le_refl _) ?_
      have hK : (K_m_cut S a0 f n g v_along v_bestSum v_bestMany v_bestSize) = ((K_m_stretch S f n g v_along).2, v_bestSum, v_bestMany, v_bestSize) := by
        unfold K_m_cut
        rw [if_neg c16]
        rw [if_pos c57]
      rw [← hQ]
      dsimp only
      rw [hK]
      exact ⟨rfl, fr, m0, m_bestSum, m_bestMany, m_bestSize, kp⟩
    · skip
      refine Ev.iload rfl rfl ?_
      refine Ev.aload_n rfl rfl ?_
      refine Ev.getf rfl rfl m0 rfl ?_
      refine Ev.iload_n rfl rfl ?_
      refine Ev.ialdN (k := a0) rfl m_bestSum rfl ⟨(by omega), by decide⟩ ?_
      refine Ev.jne (tgt := 83) rfl (by decide) (fun c68 => ?_) (fun c68 => ?_)
      · skip
        refine Ev.aload_n rfl rfl ?_
        refine Ev.getf rfl rfl m0 rfl ?_
        refine Ev.iload_n rfl rfl ?_
        refine Ev.iload rfl rfl ?_
        refine Ev.iastE (k := a0) rfl m_bestSum rfl ⟨(by omega), by decide⟩ (fun τ2 f1 m_bestSum => ?_)
        have m1 := frm.cell f1 m1 (by omega)
        have m0 := frm.cell f1 m0 (by omega)
        have m_along := frm.cell f1 m_along (by omega)
        have m_bestMany := frm.cell f1 m_bestMany (by omega)
        have m_bestSize := frm.cell f1 m_bestSize (by omega)
        have kp : (∀ q, q ≠ y → q ≠ y + 5 → q ≠ y + 6 → q ≠ y + 7 → τ2.2 q = σ.2 q) := fun q n0 n1 n2 n3 => (f1.2 q (by omega)).trans (kp q n0 n1 n2 n3)
        have fr := fr.step f1 (by omega) (by omega)
        have hM : isM _ y ((K_m_stretch S f n g v_along).2) A := ⟨m0, m1⟩
        refine Ev.aload_n rfl rfl ?_
        refine Ev.getf rfl rfl m0 rfl ?_
        refine Ev.iload_n rfl rfl ?_
        refine Ev.iload rfl rfl ?_
        refine Ev.iastE (k := a0) rfl m_bestMany rfl ⟨(by omega), by decide⟩ (fun τ3 f1 m_bestMany => ?_)
        have m1 := frm.cell f1 m1 (by omega)
        have m0 := frm.cell f1 m0 (by omega)
        have m_along := frm.cell f1 m_along (by omega)
        have m_bestSum := frm.cell f1 m_bestSum (by omega)
        have m_bestSize := frm.cell f1 m_bestSize (by omega)
        have kp : (∀ q, q ≠ y → q ≠ y + 5 → q ≠ y + 6 → q ≠ y + 7 → τ3.2 q = σ.2 q) := fun q n0 n1 n2 n3 => (f1.2 q (by omega)).trans (kp q n0 n1 n2 n3)
        have fr := fr.step f1 (by omega) (by omega)
        have hM : isM _ y ((K_m_stretch S f n g v_along).2) A := ⟨m0, m1⟩
        refine Ev.aload_n rfl rfl ?_
        refine Ev.getf rfl rfl m0 rfl ?_
        refine Ev.iload_n rfl rfl ?_
        refine Ev.iload rfl rfl ?_
        refine Ev.iastE (k := a0) rfl m_bestSize rfl ⟨(by omega), by decide⟩ (fun τ4 f1 m_bestSize => ?_)
        have m1 := frm.cell f1 m1 (by omega)
        have m0 := frm.cell f1 m0 (by omega)
        have m_along := frm.cell f1 m_along (by omega)
        have m_bestSum := frm.cell f1 m_bestSum (by omega)
        have m_bestMany := frm.cell f1 m_bestMany (by omega)
        have kp : (∀ q, q ≠ y → q ≠ y + 5 → q ≠ y + 6 → q ≠ y + 7 → τ4.2 q = σ.2 q) := fun q n0 n1 n2 n3 => (f1.2 q (by omega)).trans (kp q n0 n1 n2 n3)
        have fr := fr.step f1 (by omega) (by omega)
        have hM : isM _ y ((K_m_stretch S f n g v_along).2) A := ⟨m0, m1⟩
        refine Ev.ret rfl rfl (Nat.le_refl _) (Nat.le_refl _) ?_
        have hK : (K_m_cut S a0 f n g v_along v_bestSum v_bestMany v_bestSize) = ((K_m_stretch S f n g v_along).2, (upd v_bestSum a0 (((K_m_stretch S f n g v_along).1) + (v_bestSum (a0 - 17 + n)))), (upd v_bestMany a0 ((1 : Int32) + (v_bestMany (a0 - 17 + n)))), (upd v_bestSize a0 (nI n))) := by
          unfold K_m_cut
          rw [if_neg c16]
          rw [if_neg c57]
          rw [if_neg c68]
        rw [← hQ]
        dsimp only
        rw [hK]
        exact ⟨rfl, fr, m0, m_bestSum, m_bestMany, m_bestSize, kp⟩
      · skip
        refine Ev.iload rfl rfl ?_
        refine Ev.aload_n rfl rfl ?_
        refine Ev.getf rfl rfl m0 rfl ?_
        refine Ev.iload_n rfl rfl ?_
        refine Ev.ialdN (k := a0) rfl m_bestMany rfl ⟨(by omega), by decide⟩ ?_
        refine Ev.jlt (tgt := 83) rfl (by decide) (fun c79 => ?_) (fun c79 => ?_)
        · skip
          refine Ev.aload_n rfl rfl ?_
          refine Ev.getf rfl rfl m0 rfl ?_
          refine Ev.iload_n rfl rfl ?_
          refine Ev.iload rfl rfl ?_
          refine Ev.iastE (k := a0) rfl m_bestSum rfl ⟨(by omega), by decide⟩ (fun τ5 f1 m_bestSum => ?_)
          have m1 := frm.cell f1 m1 (by omega)
          have m0 := frm.cell f1 m0 (by omega)
          have m_along := frm.cell f1 m_along (by omega)
          have m_bestMany := frm.cell f1 m_bestMany (by omega)
          have m_bestSize := frm.cell f1 m_bestSize (by omega)
          have kp : (∀ q, q ≠ y → q ≠ y + 5 → q ≠ y + 6 → q ≠ y + 7 → τ5.2 q = σ.2 q) := fun q n0 n1 n2 n3 => (f1.2 q (by omega)).trans (kp q n0 n1 n2 n3)
          have fr := fr.step f1 (by omega) (by omega)
          have hM : isM _ y ((K_m_stretch S f n g v_along).2) A := ⟨m0, m1⟩
          refine Ev.aload_n rfl rfl ?_
          refine Ev.getf rfl rfl m0 rfl ?_
          refine Ev.iload_n rfl rfl ?_
          refine Ev.iload rfl rfl ?_
          refine Ev.iastE (k := a0) rfl m_bestMany rfl ⟨(by omega), by decide⟩ (fun τ6 f1 m_bestMany => ?_)
          have m1 := frm.cell f1 m1 (by omega)
          have m0 := frm.cell f1 m0 (by omega)
          have m_along := frm.cell f1 m_along (by omega)
          have m_bestSum := frm.cell f1 m_bestSum (by omega)
          have m_bestSize := frm.cell f1 m_bestSize (by omega)
          have kp : (∀ q, q ≠ y → q ≠ y + 5 → q ≠ y + 6 → q ≠ y + 7 → τ6.2 q = σ.2 q) := fun q n0 n1 n2 n3 => (f1.2 q (by omega)).trans (kp q n0 n1 n2 n3)
          have fr := fr.step f1 (by omega) (by omega)
          have hM : isM _ y ((K_m_stretch S f n g v_along).2) A := ⟨m0, m1⟩
          refine Ev.aload_n rfl rfl ?_
          refine Ev.getf rfl rfl m0 rfl ?_
          refine Ev.iload_n rfl rfl ?_
          refine Ev.iload rfl rfl ?_
          refine Ev.iastE (k := a0) rfl m_bestSize rfl ⟨(by omega), by decide⟩ (fun τ7 f1 m_bestSize => ?_)
          have m1 := frm.cell f1 m1 (by omega)
          have m0 := frm.cell f1 m0 (by omega)
          have m_along := frm.cell f1 m_along (by omega)
          have m_bestSum := frm.cell f1 m_bestSum (by omega)
          have m_bestMany := frm.cell f1 m_bestMany (by omega)
          have kp : (∀ q, q ≠ y → q ≠ y + 5 → q ≠ y + 6 → q ≠ y + 7 → τ7.2 q = σ.2 q) := fun q n0 n1 n2 n3 => (f1.2 q (by omega)).trans (kp q n0 n1 n2 n3)
          have fr := fr.step f1 (by omega) (by omega)
          have hM : isM _ y ((K_m_stretch S f n g v_along).2) A := ⟨m0, m1⟩
          refine Ev.ret rfl rfl (Nat.le_refl _) (Nat.le_refl _) ?_
          have hK : (K_m_cut S a0 f n g v_along v_bestSum v_bestMany v_bestSize) = ((K_m_stretch S f n g v_along).2, (upd v_bestSum a0 (((K_m_stretch S f n g v_along).1) + (v_bestSum (a0 - 17 + n)))), (upd v_bestMany a0 ((1 : Int32) + (v_bestMany (a0 - 17 + n)))), (upd v_bestSize a0 (nI n))) := by
            unfold K_m_cut
            rw [if_neg c16]
            rw [if_neg c57]
            rw [if_pos c68]
            rw [if_pos c79]
          rw [← hQ]
          dsimp only
          rw [hK]
          exact ⟨rfl, fr, m0, m_bestSum, m_bestMany, m_bestSize, kp⟩
        · skip
          refine Ev.ret rfl rfl (Nat.le_refl _) (Nat.le_refl _) ?_
          have hK : (K_m_cut S a0 f n g v_along v_bestSum v_bestMany v_bestSize) = ((K_m_stretch S f n g v_along).2, v_bestSum, v_bestMany, v_bestSize) := by
            unfold K_m_cut
            rw [if_neg c16]
            rw [if_neg c57]
            rw [if_pos c68]
            rw [if_neg c79]
          rw [← hQ]
          dsimp only
          rw [hK]
          exact ⟨rfl, fr, m0, m_bestSum, m_bestMany, m_bestSize, kp⟩
  · skip
    refine Ev.ret rfl rfl (Nat.le_refl _) (Nat.le_refl _) ?_
    have hK : (K_m_cut S a0 f n g v_along v_bestSum v_bestMany v_bestSize) = (g, v_bestSum, v_bestMany, v_bestSize) := by
      unfold K_m_cut
      rw [if_pos c16]
    rw [← hQ]
    dsimp only
    rw [hK]
    exact ⟨rfl, fr, m0, m_bestSum, m_bestMany, m_bestSize, kp⟩
def F_m_cuts_78 (S : Sch) (k0 : Nat) (g : Nat → Int32) (v_along : Nat → Int32) (v_bestSum : Nat → Int32) (v_bestMany : Nat → Int32) (v_bestSize : Nat → Int32) (k : Nat) (z : (Nat → Int32) × (Nat → Int32) × (Nat → Int32) × (Nat → Int32)) (k' : Nat) (z' : (Nat → Int32) × (Nat → Int32) × (Nat → Int32) × (Nat → Int32)) : Nat → ((Nat → Int32) × (Nat → Int32) × (Nat → Int32) × (Nat → Int32)) → ((Nat → Int32) × (Nat → Int32) × (Nat → Int32) × (Nat → Int32)) ⊕ ((Nat → Int32) × (Nat → Int32) × (Nat → Int32) × (Nat → Int32)) := fun k'' z'' => if (nI S.1) < ((nI ((S.1 + 1) - 1 - k')) + (nI k'')) then (.inr (z''.1, z''.2.1, z''.2.2.1, z''.2.2.2)) else (.inl ((K_m_cut S (17 * k + ((S.1 + 1) - 1 - k')) ((S.1 + 1) - 1 - k') k'' z''.1 v_along z''.2.1 z''.2.2.1 z''.2.2.2).1, (K_m_cut S (17 * k + ((S.1 + 1) - 1 - k')) ((S.1 + 1) - 1 - k') k'' z''.1 v_along z''.2.1 z''.2.2.1 z''.2.2.2).2.1, (K_m_cut S (17 * k + ((S.1 + 1) - 1 - k')) ((S.1 + 1) - 1 - k') k'' z''.1 v_along z''.2.1 z''.2.2.1 z''.2.2.2).2.2.1, (K_m_cut S (17 * k + ((S.1 + 1) - 1 - k')) ((S.1 + 1) - 1 - k') k'' z''.1 v_along z''.2.1 z''.2.2.1 z''.2.2.2).2.2.2))
def F_m_cuts_19 (S : Sch) (k0 : Nat) (g : Nat → Int32) (v_along : Nat → Int32) (v_bestSum : Nat → Int32) (v_bestMany : Nat → Int32) (v_bestSize : Nat → Int32) (k : Nat) (z : (Nat → Int32) × (Nat → Int32) × (Nat → Int32) × (Nat → Int32)) : Nat → ((Nat → Int32) × (Nat → Int32) × (Nat → Int32) × (Nat → Int32)) → ((Nat → Int32) × (Nat → Int32) × (Nat → Int32) × (Nat → Int32)) := fun k' z' => if (nI ((S.1 + 1) - 1 - k')) = (nI S.1) then (if (0 : Int32) < (nI k) then (Sum.elim (fun (zx : (Nat → Int32) × (Nat → Int32) × (Nat → Int32) × (Nat → Int32)) => (zx.1, zx.2.1, zx.2.2.1, zx.2.2.2)) (fun (rx : (Nat → Int32) × (Nat → Int32) × (Nat → Int32) × (Nat → Int32)) => (rx.1, rx.2.1, rx.2.2.1, rx.2.2.2)) (fe (F_m_cuts_78 S k0 g v_along v_bestSum v_bestMany v_bestSize k z k' z') (((S.2.2 9 3).toNatClampNeg + 1) - ((S.2.2 9 2).toNatClampNeg)) ((S.2.2 9 2).toNatClampNeg) (z'.1, (upd z'.2.1 (17 * k + ((S.1 + 1) - 1 - k')) (0 : Int32)), (upd z'.2.2.1 (17 * k + ((S.1 + 1) - 1 - k')) (0 : Int32)), (upd z'.2.2.2 (17 * k + ((S.1 + 1) - 1 - k')) (0 : Int32))))) else (z'.1, (upd z'.2.1 (17 * k + ((S.1 + 1) - 1 - k')) (0 : Int32)), (upd z'.2.2.1 (17 * k + ((S.1 + 1) - 1 - k')) (0 : Int32)), (upd z'.2.2.2 (17 * k + ((S.1 + 1) - 1 - k')) (0 : Int32)))) else (if (0 : Int32) < (nI k) then (Sum.elim (fun (zx : (Nat → Int32) × (Nat → Int32) × (Nat → Int32) × (Nat → Int32)) => (zx.1, zx.2.1, zx.2.2.1, zx.2.2.2)) (fun (rx : (Nat → Int32) × (Nat → Int32) × (Nat → Int32) × (Nat → Int32)) => (rx.1, rx.2.1, rx.2.2.1, rx.2.2.2)) (fe (F_m_cuts_78 S k0 g v_along v_bestSum v_bestMany v_bestSize k z k' z') (((S.2.2 9 3).toNatClampNeg + 1) - ((S.2.2 9 2).toNatClampNeg)) ((S.2.2 9 2).toNatClampNeg) (z'.1, (upd z'.2.1 (17 * k + ((S.1 + 1) - 1 - k')) (-1 : Int32)), (upd z'.2.2.1 (17 * k + ((S.1 + 1) - 1 - k')) (0 : Int32)), (upd z'.2.2.2 (17 * k + ((S.1 + 1) - 1 - k')) (0 : Int32))))) else (z'.1, (upd z'.2.1 (17 * k + ((S.1 + 1) - 1 - k')) (-1 : Int32)), (upd z'.2.2.1 (17 * k + ((S.1 + 1) - 1 - k')) (0 : Int32)), (upd z'.2.2.2 (17 * k + ((S.1 + 1) - 1 - k')) (0 : Int32))))
def F_m_cuts_10 (S : Sch) (k0 : Nat) (g : Nat → Int32) (v_along : Nat → Int32) (v_bestSum : Nat → Int32) (v_bestMany : Nat → Int32) (v_bestSize : Nat → Int32) : Nat → ((Nat → Int32) × (Nat → Int32) × (Nat → Int32) × (Nat → Int32)) → ((Nat → Int32) × (Nat → Int32) × (Nat → Int32) × (Nat → Int32)) := fun k z => ((fo (F_m_cuts_19 S k0 g v_along v_bestSum v_bestMany v_bestSize k z) (S.1 + 1) 0 (z.1, z.2.1, z.2.2.1, z.2.2.2)).1, (fo (F_m_cuts_19 S k0 g v_along v_bestSum v_bestMany v_bestSize k z) (S.1 + 1) 0 (z.1, z.2.1, z.2.2.1, z.2.2.2)).2.1, (fo (F_m_cuts_19 S k0 g v_along v_bestSum v_bestMany v_bestSize k z) (S.1 + 1) 0 (z.1, z.2.1, z.2.2.1, z.2.2.2)).2.2.1, (fo (F_m_cuts_19 S k0 g v_along v_bestSum v_bestMany v_bestSize k z) (S.1 + 1) 0 (z.1, z.2.1, z.2.2.1, z.2.2.2)).2.2.2)
def K_m_cuts (S : Sch) (k0 : Nat) (g : Nat → Int32) (v_along : Nat → Int32) (v_bestSum : Nat → Int32) (v_bestMany : Nat → Int32) (v_bestSize : Nat → Int32) : (Nat → Int32) × (Nat → Int32) × (Nat → Int32) × (Nat → Int32) := ((fo (F_m_cuts_10 S k0 g v_along v_bestSum v_bestMany v_bestSize) (k0 + 1) 0 (g, v_bestSum, v_bestMany, v_bestSize)).1, (fo (F_m_cuts_10 S k0 g v_along v_bestSum v_bestMany v_bestSize) (k0 + 1) 0 (g, v_bestSum, v_bestMany, v_bestSize)).2.1, (fo (F_m_cuts_10 S k0 g v_along v_bestSum v_bestMany v_bestSize) (k0 + 1) 0 (g, v_bestSum, v_bestMany, v_bestSize)).2.2.1, (fo (F_m_cuts_10 S k0 g v_along v_bestSum v_bestMany v_bestSize) (k0 + 1) 0 (g, v_bestSum, v_bestMany, v_bestSize)).2.2.2)
theorem m_cuts_ok (hM : isM σ y g A) {s : Nat} (hS : mS A s S) (hs : s + 120 ≤ 4500) (hwS : wS S) {v_along : Nat → Int32} (m_along : σ.2 (y + 4) = some (.inl (0, 16, v_along))) {v_bestSum : Nat → Int32} (m_bestSum : σ.2 (y + 5) = some (.inl (0, 119, v_bestSum))) {v_bestMany : Nat → Int32} (m_bestMany : σ.2 (y + 6) = some (.inl (0, 119, v_bestMany))) {v_bestSize : Nat → Int32} (m_bestSize : σ.2 (y + 7) = some (.inl (0, 119, v_bestSize))) {k0 : Nat} (hk6 : k0 ≤ 6) (hal : okR S S.1 v_along) : RetX Γ m_M_cuts [(.ref y), (.int (nI s)), (.int (nI k0))] σ y (y + 17) none (fun τ => τ.2 y = some (.inr (.inr (10, mo y ((K_m_cuts S k0 g v_along v_bestSum v_bestMany v_bestSize).1)))) ∧ τ.2 (y + 5) = some (.inl (0, 119, (K_m_cuts S k0 g v_along v_bestSum v_bestMany v_bestSize).2.1)) ∧ τ.2 (y + 6) = some (.inl (0, 119, (K_m_cuts S k0 g v_along v_bestSum v_bestMany v_bestSize).2.2.1)) ∧ τ.2 (y + 7) = some (.inl (0, 119, (K_m_cuts S k0 g v_along v_bestSum v_bestMany v_bestSize).2.2.2)) ∧ (∀ q, q ≠ y → q ≠ y + 5 → q ≠ y + 6 → q ≠ y + 7 → τ.2 q = σ.2 q)) := by
  obtain ⟨m0, m1⟩ := id hM
  have hn16 := hwS.1
  have hn5 := hwS.2.1
  obtain ⟨hle, hle1, hle2⟩ := le_cl hwS
  obtain ⟨hmo, hmo1, hmo2, hlm⟩ := mo_cl hwS
  unfold RetX
  generalize hQ : (fun (r : Option Value) (τ : ex_S) => r = none ∧ frm σ τ y (y + 17) ∧ (fun τ : ex_S => τ.2 y = some (.inr (.inr (10, mo y ((K_m_cuts S k0 g v_along v_bestSum v_bestMany v_bestSize).1)))) ∧ τ.2 (y + 5) = some (.inl (0, 119, (K_m_cuts S k0 g v_along v_bestSum v_bestMany v_bestSize).2.1)) ∧ τ.2 (y + 6) = some (.inl (0, 119, (K_m_cuts S k0 g v_along v_bestSum v_bestMany v_bestSize).2.2.1)) ∧ τ.2 (y + 7) = some (.inl (0, 119, (K_m_cuts S k0 g v_along v_bestSum v_bestMany v_bestSize).2.2.2)) ∧ (∀ q, q ≠ y → q ≠ y + 5 → q ≠ y + 6 → q ≠ y + 7 → τ.2 q = σ.2 q)) τ) = Q
  refine Ret.start pm_225 rfl ?_
  have fr : frm σ σ y (y + 17) := frm.rf
  have kp : (∀ q, q ≠ y → q ≠ y + 5 → q ≠ y + 6 → q ≠ y + 7 → σ.2 q = σ.2 q) := fun _ _ _ _ _ => rfl
  have hM : isM _ y g A := ⟨m0, m1⟩
  refine Ev.aload_n rfl rfl ?_
  refine Ev.getf rfl rfl m0 rfl ?_
  refine Ev.iload_n rfl rfl ?_
  refine Ev.ialdN (k := s) rfl m1 (nq_to (a := s) rfl (by omega)) ⟨(by omega), by decide⟩ ?_
  rw [hS.1]
  refine Ev.istore_n rfl rfl rfl ?_
  refine Ev.iconst (v := 0) rfl (by decide) ?_
  refine Ev.istore rfl rfl rfl ?_
  refine Ev.fg (L := [some (.ref y), some (.int (nI s)), some (.int (nI k0)), some (.int (nI S.1)), some (.int (nI 0)), none, none, none]) ?_ (gs rfl (gs rfl (gs rfl (gs rfl (gs (congrArg Value.int (rfl : (0 : Int32) = nI 0).symm) (gn (gn (gn gz))))))))
  refine lp (fun (k : Nat) (z : (Nat → Int32) × (Nat → Int32) × (Nat → Int32) × (Nat → Int32)) => ∀ τ' : ex_S, frm σ τ' y (y + 17) → τ'.2 (y + 1) = some (.inl (0, 4500, A)) → τ'.2 y = some (.inr (.inr (10, mo y z.1))) → τ'.2 (y + 4) = some (.inl (0, 16, v_along)) → τ'.2 (y + 5) = some (.inl (0, 119, z.2.1)) → τ'.2 (y + 6) = some (.inl (0, 119, z.2.2.1)) → τ'.2 (y + 7) = some (.inl (0, 119, z.2.2.2)) → (∀ q, q ≠ y → q ≠ y + 5 → q ≠ y + 6 → q ≠ y + 7 → τ'.2 q = σ.2 q) → Ev Γ 0 0 m_M_cuts 0 0 10 [some (.ref y), some (.int (nI s)), some (.int (nI k0)), some (.int (nI S.1)), some (.int (nI k)), none, none, none] [] τ' Q) (F_m_cuts_10 S k0 g v_along v_bestSum v_bestMany v_bestSize) (k0 + 1) (fun k z hk hx => ?_) (k0 + 1) 0 (g, v_bestSum, v_bestMany, v_bestSize) (by omega) ?_ σ fr m1 m0 m_along m_bestSum m_bestMany m_bestSize kp
  · skip
    intro τ' fr m1 m0 m_along m_bestSum m_bestMany m_bestSize kp
    have hM : isM _ y z.1 A := ⟨m0, m1⟩
    refine Ev.iload rfl rfl ?_
    refine Ev.iload_n rfl rfl ?_
    refine Ev.jgt (tgt := 134) rfl (by decide) (fun c13 => absurd c13 (nI_nlt (by omega) (by omega))) (fun c13 => ?_)
    refine Ev.iload_n rfl rfl ?_
    refine Ev.istore rfl rfl rfl ?_
    refine Ev.fg (L := [some (.ref y), some (.int (nI s)), some (.int (nI k0)), some (.int (nI S.1)), some (.int (nI k)), some (.int (nI ((S.1 + 1) - 0) - 1)), none, none]) ?_ (gs rfl (gs rfl (gs rfl (gs rfl (gs rfl (gs (congrArg Value.int dn_start) (gn (gn gz))))))))
    refine lp (fun (k' : Nat) (z' : (Nat → Int32) × (Nat → Int32) × (Nat → Int32) × (Nat → Int32)) => ∀ τ'' : ex_S, frm σ τ'' y (y + 17) → τ''.2 (y + 1) = some (.inl (0, 4500, A)) → τ''.2 y = some (.inr (.inr (10, mo y z'.1))) → τ''.2 (y + 4) = some (.inl (0, 16, v_along)) → τ''.2 (y + 5) = some (.inl (0, 119, z'.2.1)) → τ''.2 (y + 6) = some (.inl (0, 119, z'.2.2.1)) → τ''.2 (y + 7) = some (.inl (0, 119, z'.2.2.2)) → (∀ q, q ≠ y → q ≠ y + 5 → q ≠ y + 6 → q ≠ y + 7 → τ''.2 q = σ.2 q) → Ev Γ 0 0 m_M_cuts 0 0 19 [some (.ref y), some (.int (nI s)), some (.int (nI k0)), some (.int (nI S.1)), some (.int (nI k)), some (.int (nI ((S.1 + 1) - k') - 1)), none, none] [] τ'' Q) (F_m_cuts_19 S k0 g v_along v_bestSum v_bestMany v_bestSize k z) (S.1 + 1) (fun k' z' hk' hx' => ?_) (S.1 + 1) 0 (z.1, z.2.1, z.2.2.1, z.2.2.2) (by omega) ?_ τ' fr m1 m0 m_along m_bestSum m_bestMany m_bestSize kp
    · skip
      intro τ'' fr m1 m0 m_along m_bestSum m_bestMany m_bestSize kp
      have hM : isM _ y z'.1 A := ⟨m0, m1⟩
      refine Ev.fg (L := [some (.ref y), some (.int (nI s)), some (.int (nI k0)), some (.int (nI S.1)), some (.int (nI k)), some (.int (nI ((S.1 + 1) - 1 - k'))), none, none]) ?_ (gs rfl (gs rfl (gs rfl (gs rfl (gs rfl (gs (congrArg Value.int (down_eq hk' (by omega))) (gn (gn gz))))))))
      refine Ev.iload rfl rfl ?_
      refine Ev.zlt (tgt := 128) rfl (by decide) (fun c21 => absurd c21 (nI_pos (by omega))) (fun c21 => ?_)
      refine Ev.bipush (v := 17) rfl (by decide) ?_
      refine Ev.iload rfl rfl ?_
      refine Ev.imul rfl ?_
      refine Ev.iload rfl rfl ?_
      refine Ev.iadd rfl ?_
      rw [show ((17 : Int32) * (nI k)) + (nI ((S.1 + 1) - 1 - k')) = nI (17 * k + ((S.1 + 1) - 1 - k')) from (nq_add (a := 17 * k) (b := (S.1 + 1) - 1 - k') (nq_mul (a := 17) (b := k) (rfl : (17 : Int32) = nI 17) rfl) rfl)]
      refine Ev.istore rfl rfl rfl ?_
      refine Ev.aload_n rfl rfl ?_
      refine Ev.getf rfl rfl m0 rfl ?_
      refine Ev.iload rfl rfl ?_
      refine Ev.iload rfl rfl ?_
      refine Ev.iload_n rfl rfl ?_
      refine Ev.jne (tgt := 50) rfl (by decide) (fun c43 => ?_) (fun c43 => ?_)
      · skip
        refine Ev.iconst (v := (-1)) rfl (by decide) ?_
        refine Ev.iastE (k := 17 * k + ((S.1 + 1) - 1 - k')) rfl m_bestSum rfl ⟨(by omega), by decide⟩ (fun τ1 f1 m_bestSum => ?_)
        have m1 := frm.cell f1 m1 (by omega)
        have m0 := frm.cell f1 m0 (by omega)
        have m_along := frm.cell f1 m_along (by omega)
        have m_bestMany := frm.cell f1 m_bestMany (by omega)
        have m_bestSize := frm.cell f1 m_bestSize (by omega)
        have kp : (∀ q, q ≠ y → q ≠ y + 5 → q ≠ y + 6 → q ≠ y + 7 → τ1.2 q = σ.2 q) := fun q n0 n1 n2 n3 => (f1.2 q (by omega)).trans (kp q n0 n1 n2 n3)
        have fr := fr.step f1 (by omega) (by omega)
        have hM : isM _ y z'.1 A := ⟨m0, m1⟩
        refine Ev.aload_n rfl rfl ?_
        refine Ev.getf rfl rfl m0 rfl ?_
        refine Ev.iload rfl rfl ?_
        refine Ev.iconst (v := 0) rfl (by decide) ?_
        refine Ev.iastE (k := 17 * k + ((S.1 + 1) - 1 - k')) rfl m_bestMany rfl ⟨(by omega), by decide⟩ (fun τ2 f1 m_bestMany => ?_)
        have m1 := frm.cell f1 m1 (by omega)
        have m0 := frm.cell f1 m0 (by omega)
        have m_along := frm.cell f1 m_along (by omega)
        have m_bestSum := frm.cell f1 m_bestSum (by omega)
        have m_bestSize := frm.cell f1 m_bestSize (by omega)
        have kp : (∀ q, q ≠ y → q ≠ y + 5 → q ≠ y + 6 → q ≠ y + 7 → τ2.2 q = σ.2 q) := fun q n0 n1 n2 n3 => (f1.2 q (by omega)).trans (kp q n0 n1 n2 n3)
        have fr := fr.step f1 (by omega) (by omega)
        have hM : isM _ y z'.1 A := ⟨m0, m1⟩
        refine Ev.aload_n rfl rfl ?_
        refine Ev.getf rfl rfl m0 rfl ?_
        refine Ev.iload rfl rfl ?_
        refine Ev.iconst (v := 0) rfl (by decide) ?_
        refine Ev.iastE (k := 17 * k + ((S.1 + 1) - 1 - k')) rfl m_bestSize rfl ⟨(by omega), by decide⟩ (fun τ3 f1 m_bestSize => ?_)
        have m1 := frm.cell f1 m1 (by omega)
        have m0 := frm.cell f1 m0 (by omega)
        have m_along := frm.cell f1 m_along (by omega)
        have m_bestSum := frm.cell f1 m_bestSum (by omega)
        have m_bestMany := frm.cell f1 m_bestMany (by omega)
        have kp : (∀ q, q ≠ y → q ≠ y + 5 → q ≠ y + 6 → q ≠ y + 7 → τ3.2 q = σ.2 q) := fun q n0 n1 n2 n3 => (f1.2 q (by omega)).trans (kp q n0 n1 n2 n3)
        have fr := fr.step f1 (by omega) (by omega)
        have hM : isM _ y z'.1 A := ⟨m0, m1⟩
        refine Ev.aload_n rfl rfl ?_
        refine Ev.getf rfl rfl m0 rfl ?_
        refine Ev.iload_n rfl rfl ?_
        refine Ev.iconst (v := 4) rfl (by decide) ?_
        refine Ev.iadd rfl ?_
        refine Ev.ialdN (k := s + 4) rfl m1 (nq_to (a := s + 4) (nq_add (a := s) (b := 4) rfl (rfl : (4 : Int32) = nI 4)) (by omega)) ⟨(by omega), by decide⟩ ?_
        rw [show A (s + 4) = _ from hS.2.2.1 2 (by decide)]
        refine Ev.istore rfl rfl rfl ?_
        by_cases g80 : (0 : Int32) < (nI k)
        · skip
          have hk0 : 1 ≤ k := Nat.pos_of_ne_zero (fun c => by rw [c] at g80; exact absurd g80 (by decide))
          refine Ev.fg (L := [some (.ref y), some (.int (nI s)), some (.int (nI k0)), some (.int (nI S.1)), some (.int (nI k)), some (.int (nI ((S.1 + 1) - 1 - k'))), some (.int (nI (17 * k + ((S.1 + 1) - 1 - k')))), some (.int (nI ((S.2.2 9 2).toNatClampNeg)))]) ?_ (gs rfl (gs rfl (gs rfl (gs rfl (gs rfl (gs rfl (gs rfl (gs (congrArg Value.int hle.symm) gz))))))))
          refine lpe (fun (k'' : Nat) (z'' : (Nat → Int32) × (Nat → Int32) × (Nat → Int32) × (Nat → Int32)) => ((S.2.2 9 2).toNatClampNeg ≤ k'') → ∀ τ''' : ex_S, frm σ τ''' y (y + 17) → τ'''.2 (y + 1) = some (.inl (0, 4500, A)) → τ'''.2 y = some (.inr (.inr (10, mo y z''.1))) → τ'''.2 (y + 4) = some (.inl (0, 16, v_along)) → τ'''.2 (y + 5) = some (.inl (0, 119, z''.2.1)) → τ'''.2 (y + 6) = some (.inl (0, 119, z''.2.2.1)) → τ'''.2 (y + 7) = some (.inl (0, 119, z''.2.2.2)) → (∀ q, q ≠ y → q ≠ y + 5 → q ≠ y + 6 → q ≠ y + 7 → τ'''.2 q = σ.2 q) → Ev Γ 0 0 m_M_cuts 0 0 78 [some (.ref y), some (.int (nI s)), some (.int (nI k0)), some (.int (nI S.1)), some (.int (nI k)), some (.int (nI ((S.1 + 1) - 1 - k'))), some (.int (nI (17 * k + ((S.1 + 1) - 1 - k')))), some (.int (nI k''))] [] τ''' Q) (fun (r : (Nat → Int32) × (Nat → Int32) × (Nat → Int32) × (Nat → Int32)) => ∀ τ''' : ex_S, frm σ τ''' y (y + 17) → τ'''.2 (y + 1) = some (.inl (0, 4500, A)) → τ'''.2 y = some (.inr (.inr (10, mo y r.1))) → τ'''.2 (y + 4) = some (.inl (0, 16, v_along)) → τ'''.2 (y + 5) = some (.inl (0, 119, r.2.1)) → τ'''.2 (y + 6) = some (.inl (0, 119, r.2.2.1)) → τ'''.2 (y + 7) = some (.inl (0, 119, r.2.2.2)) → (∀ q, q ≠ y → q ≠ y + 5 → q ≠ y + 6 → q ≠ y + 7 → τ'''.2 q = σ.2 q) → Ev Γ 0 0 m_M_cuts 0 0 122 [some (.ref y), some (.int (nI s)), some (.int (nI k0)), some (.int (nI S.1)), some (.int (nI k)), some (.int (nI ((S.1 + 1) - 1 - k'))), none, none] [] τ''' Q) (F_m_cuts_78 S k0 g v_along v_bestSum v_bestMany v_bestSize k z k' z') ((S.2.2 9 3).toNatClampNeg + 1) (fun k'' z'' hk'' hx'' he => ?_) (((S.2.2 9 3).toNatClampNeg + 1) - ((S.2.2 9 2).toNatClampNeg)) ((S.2.2 9 2).toNatClampNeg) (z'.1, (upd z'.2.1 (17 * k + ((S.1 + 1) - 1 - k')) (-1 : Int32)), (upd z'.2.2.1 (17 * k + ((S.1 + 1) - 1 - k')) (0 : Int32)), (upd z'.2.2.2 (17 * k + ((S.1 + 1) - 1 - k')) (0 : Int32))) (by omega) (fun zx hzx => ?_) (fun rx hrx => ?_) (Nat.le_refl _) τ3 fr m1 m0 m_along m_bestSum m_bestMany m_bestSize kp
          · skip
            intro hI''
            intro τ''' fr m1 m0 m_along m_bestSum m_bestMany m_bestSize kp
            have hM : isM _ y z''.1 A := ⟨m0, m1⟩
            refine Ev.iload rfl rfl ?_
            refine Ev.zle (tgt := 122) rfl (by decide) (fun c80 => absurd g80 c80) (fun c80 => ?_)
            refine Ev.iload rfl rfl ?_
            refine Ev.aload_n rfl rfl ?_
            refine Ev.getf rfl rfl m0 rfl ?_
            refine Ev.iload_n rfl rfl ?_
            refine Ev.iconst (v := 5) rfl (by decide) ?_
            refine Ev.iadd rfl ?_
            refine Ev.ialdN (k := s + 5) rfl m1 (nq_to (a := s + 5) (nq_add (a := s) (b := 5) rfl (rfl : (5 : Int32) = nI 5)) (by omega)) ⟨(by omega), by decide⟩ ?_
            rw [show A (s + 5) = _ from hS.2.2.1 3 (by decide)]
            refine Ev.jgt (tgt := 122) rfl (by decide) (fun c93 => absurd c93 (ngtN hk'' hmo (by omega))) (fun c93 => ?_)
            refine Ev.iload rfl rfl ?_
            refine Ev.iload rfl rfl ?_
            refine Ev.iadd rfl ?_
            refine Ev.iload_n rfl rfl ?_
            refine Ev.jgt (tgt := 122) rfl (by decide) (fun c102 => ?_) (fun c102 => ?_)
            · skip
              have hF : (F_m_cuts_78 S k0 g v_along v_bestSum v_bestMany v_bestSize k z k' z') k'' z'' = .inr (z''.1, z''.2.1, z''.2.2.1, z''.2.2.2) := by
                unfold F_m_cuts_78
                rw [if_pos c102]
              exact (he _ hF τ''' fr m1 m0 m_along m_bestSum m_bestMany m_bestSize kp).fg (gs rfl (gs rfl (gs rfl (gs rfl (gs rfl (gs rfl (gn (gn gz))))))))
            · skip
              have hfn := ln_c c102 rfl (by omega)
              refine Ev.aload_n rfl rfl ?_
              refine Ev.iload_n rfl rfl ?_
              refine Ev.iload rfl rfl ?_
              refine Ev.iload rfl rfl ?_
              refine Ev.iload rfl rfl ?_
              refine Ev.xV4u rfl rfl m0 rfl rfl (by decide) ⟨(Nat.le_refl _), (Nat.le_refl _)⟩ (m_cut_ok (a0 := 17 * k + ((S.1 + 1) - 1 - k')) (f := (S.1 + 1) - 1 - k') (n := k'') hM hS hs hwS m_along m_bestSum m_bestMany m_bestSize (by omega) (by omega) (by omega) (by omega) hal) (fun τ4 f1 q1 => ?_)
              obtain ⟨m0, m_bestSum, m_bestMany, m_bestSize, k1⟩ := q1
              have m1 := (k1 _ (by omega) (by omega) (by omega) (by omega)).trans m1
              have m_along := (k1 _ (by omega) (by omega) (by omega) (by omega)).trans m_along
              have kp : (∀ q, q ≠ y → q ≠ y + 5 → q ≠ y + 6 → q ≠ y + 7 → τ4.2 q = σ.2 q) := fun q n0 n1 n2 n3 => (k1 q (by omega) (by omega) (by omega) (by omega)).trans (kp q n0 n1 n2 n3)
              have fr := fr.step f1 (by omega) (by omega)
              have hM : isM _ y ((K_m_cut S (17 * k + ((S.1 + 1) - 1 - k')) ((S.1 + 1) - 1 - k') k'' z''.1 v_along z''.2.1 z''.2.2.1 z''.2.2.2).1) A := ⟨m0, m1⟩
              refine Ev.iinc (d := 1) rfl rfl rfl (by decide) rfl ?_
              refine Ev.goto (tgt := 78) rfl (by decide) ?_
              have hF : (F_m_cuts_78 S k0 g v_along v_bestSum v_bestMany v_bestSize k z k' z') k'' z'' = .inl ((K_m_cut S (17 * k + ((S.1 + 1) - 1 - k')) ((S.1 + 1) - 1 - k') k'' z''.1 v_along z''.2.1 z''.2.2.1 z''.2.2.2).1, (K_m_cut S (17 * k + ((S.1 + 1) - 1 - k')) ((S.1 + 1) - 1 - k') k'' z''.1 v_along z''.2.1 z''.2.2.1 z''.2.2.2).2.1, (K_m_cut S (17 * k + ((S.1 + 1) - 1 - k')) ((S.1 + 1) - 1 - k') k'' z''.1 v_along z''.2.1 z''.2.2.1 z''.2.2.2).2.2.1, (K_m_cut S (17 * k + ((S.1 + 1) - 1 - k')) ((S.1 + 1) - 1 - k') k'' z''.1 v_along z''.2.1 z''.2.2.1 z''.2.2.2).2.2.2) := by
                unfold F_m_cuts_78
                rw [if_neg c102]
              exact (hx'' _ hF (by show ((S.2.2 9 2).toNatClampNeg ≤ k'' + 1); omega) τ4 fr m1 m0 m_along m_bestSum m_bestMany m_bestSize kp).fg (gs rfl (gs rfl (gs rfl (gs rfl (gs rfl (gs rfl (gs rfl (gs (congrArg Value.int (show nI (k'' + 1) = (nI k'') + (1 : Int32) from (nq_to (a := k'' + 1) (nq_add (a := k'') (b := 1) rfl (rfl : (1 : Int32) = nI 1)) (by omega)).symm)) gz))))))))
          · skip
            intro hI''
            intro τ''' fr m1 m0 m_along m_bestSum m_bestMany m_bestSize kp
            have hM : isM _ y zx.1 A := ⟨m0, m1⟩
            refine Ev.iload rfl rfl ?_
            refine Ev.zle (tgt := 122) rfl (by decide) (fun c80 => absurd g80 c80) (fun c80 => ?_)
            refine Ev.iload rfl rfl ?_
            refine Ev.aload_n rfl rfl ?_
            refine Ev.getf rfl rfl m0 rfl ?_
            refine Ev.iload_n rfl rfl ?_
            refine Ev.iconst (v := 5) rfl (by decide) ?_
            refine Ev.iadd rfl ?_
            refine Ev.ialdN (k := s + 5) rfl m1 (nq_to (a := s + 5) (nq_add (a := s) (b := 5) rfl (rfl : (5 : Int32) = nI 5)) (by omega)) ⟨(by omega), by decide⟩ ?_
            rw [show A (s + 5) = _ from hS.2.2.1 3 (by decide)]
            refine Ev.jgt (tgt := 122) rfl (by decide) (fun c93 => ?_) (fun c93 => absurd (gtN hmo (by omega)) c93)
            refine Ev.iinc (d := (-1)) rfl rfl rfl (by decide) rfl ?_
            refine Ev.goto (tgt := 19) rfl (by decide) ?_
            have hF : (F_m_cuts_19 S k0 g v_along v_bestSum v_bestMany v_bestSize k z) k' z' = (zx.1, zx.2.1, zx.2.2.1, zx.2.2.2) := by
              unfold F_m_cuts_19
              rw [if_neg c43]
              rw [if_pos g80]
              rw [hzx, Sum.elim_inl]
            rw [hF] at hx'
            exact (hx' τ''' fr m1 m0 m_along m_bestSum m_bestMany m_bestSize kp).fg (gs rfl (gs rfl (gs rfl (gs rfl (gs rfl (gs (congrArg Value.int (down_back hk' (by omega))) (gn (gn gz))))))))
          · skip
            intro τ''' fr m1 m0 m_along m_bestSum m_bestMany m_bestSize kp
            have hM : isM _ y rx.1 A := ⟨m0, m1⟩
            refine Ev.iinc (d := (-1)) rfl rfl rfl (by decide) rfl ?_
            refine Ev.goto (tgt := 19) rfl (by decide) ?_
            have hF : (F_m_cuts_19 S k0 g v_along v_bestSum v_bestMany v_bestSize k z) k' z' = (rx.1, rx.2.1, rx.2.2.1, rx.2.2.2) := by
              unfold F_m_cuts_19
              rw [if_neg c43]
              rw [if_pos g80]
              rw [hrx, Sum.elim_inr]
            rw [hF] at hx'
            exact (hx' τ''' fr m1 m0 m_along m_bestSum m_bestMany m_bestSize kp).fg (gs rfl (gs rfl (gs rfl (gs rfl (gs rfl (gs (congrArg Value.int (down_back hk' (by omega))) (gn (gn gz))))))))
        · skip
          refine Ev.iload rfl rfl ?_
          refine Ev.zle (tgt := 122) rfl (by decide) (fun c80 => ?_) (fun c80 => absurd c80 g80)
          refine Ev.iinc (d := (-1)) rfl rfl rfl (by decide) rfl ?_
          refine Ev.goto (tgt := 19) rfl (by decide) ?_
          have hF : (F_m_cuts_19 S k0 g v_along v_bestSum v_bestMany v_bestSize k z) k' z' = (z'.1, (upd z'.2.1 (17 * k + ((S.1 + 1) - 1 - k')) (-1 : Int32)), (upd z'.2.2.1 (17 * k + ((S.1 + 1) - 1 - k')) (0 : Int32)), (upd z'.2.2.2 (17 * k + ((S.1 + 1) - 1 - k')) (0 : Int32))) := by
            unfold F_m_cuts_19
            rw [if_neg c43]
            rw [if_neg g80]
          rw [hF] at hx'
          exact (hx' τ3 fr m1 m0 m_along m_bestSum m_bestMany m_bestSize kp).fg (gs rfl (gs rfl (gs rfl (gs rfl (gs rfl (gs (congrArg Value.int (down_back hk' (by omega))) (gn (gn gz))))))))
      · skip
        refine Ev.iconst (v := 0) rfl (by decide) ?_
        refine Ev.goto (tgt := 51) rfl (by decide) ?_
        refine Ev.iastE (k := 17 * k + ((S.1 + 1) - 1 - k')) rfl m_bestSum rfl ⟨(by omega), by decide⟩ (fun τ5 f1 m_bestSum => ?_)
        have m1 := frm.cell f1 m1 (by omega)
        have m0 := frm.cell f1 m0 (by omega)
        have m_along := frm.cell f1 m_along (by omega)
        have m_bestMany := frm.cell f1 m_bestMany (by omega)
        have m_bestSize := frm.cell f1 m_bestSize (by omega)
        have kp : (∀ q, q ≠ y → q ≠ y + 5 → q ≠ y + 6 → q ≠ y + 7 → τ5.2 q = σ.2 q) := fun q n0 n1 n2 n3 => (f1.2 q (by omega)).trans (kp q n0 n1 n2 n3)
        have fr := fr.step f1 (by omega) (by omega)
        have hM : isM _ y z'.1 A := ⟨m0, m1⟩
        refine Ev.aload_n rfl rfl ?_
        refine Ev.getf rfl rfl m0 rfl ?_
        refine Ev.iload rfl rfl ?_
        refine Ev.iconst (v := 0) rfl (by decide) ?_
        refine Ev.iastE (k := 17 * k + ((S.1 + 1) - 1 - k')) rfl m_bestMany rfl ⟨(by omega), by decide⟩ (fun τ6 f1 m_bestMany => ?_)
        have m1 := frm.cell f1 m1 (by omega)
        have m0 := frm.cell f1 m0 (by omega)
        have m_along := frm.cell f1 m_along (by omega)
        have m_bestSum := frm.cell f1 m_bestSum (by omega)
        have m_bestSize := frm.cell f1 m_bestSize (by omega)
        have kp : (∀ q, q ≠ y → q ≠ y + 5 → q ≠ y + 6 → q ≠ y + 7 → τ6.2 q = σ.2 q) := fun q n0 n1 n2 n3 => (f1.2 q (by omega)).trans (kp q n0 n1 n2 n3)
        have fr := fr.step f1 (by omega) (by omega)
        have hM : isM _ y z'.1 A := ⟨m0, m1⟩
        refine Ev.aload_n rfl rfl ?_
        refine Ev.getf rfl rfl m0 rfl ?_
        refine Ev.iload rfl rfl ?_
        refine Ev.iconst (v := 0) rfl (by decide) ?_
        refine Ev.iastE (k := 17 * k + ((S.1 + 1) - 1 - k')) rfl m_bestSize rfl ⟨(by omega), by decide⟩ (fun τ7 f1 m_bestSize => ?_)
        have m1 := frm.cell f1 m1 (by omega)
        have m0 := frm.cell f1 m0 (by omega)
        have m_along := frm.cell f1 m_along (by omega)
        have m_bestSum := frm.cell f1 m_bestSum (by omega)
        have m_bestMany := frm.cell f1 m_bestMany (by omega)
        have kp : (∀ q, q ≠ y → q ≠ y + 5 → q ≠ y + 6 → q ≠ y + 7 → τ7.2 q = σ.2 q) := fun q n0 n1 n2 n3 => (f1.2 q (by omega)).trans (kp q n0 n1 n2 n3)
        have fr := fr.step f1 (by omega) (by omega)
        have hM : isM _ y z'.1 A := ⟨m0, m1⟩
        refine Ev.aload_n rfl rfl ?_
        refine Ev.getf rfl rfl m0 rfl ?_
        refine Ev.iload_n rfl rfl ?_
        refine Ev.iconst (v := 4) rfl (by decide) ?_
        refine Ev.iadd rfl ?_
        refine Ev.ialdN (k := s + 4) rfl m1 (nq_to (a := s + 4) (nq_add (a := s) (b := 4) rfl (rfl : (4 : Int32) = nI 4)) (by omega)) ⟨(by omega), by decide⟩ ?_
        rw [show A (s + 4) = _ from hS.2.2.1 2 (by decide)]
        refine Ev.istore rfl rfl rfl ?_
        by_cases g80 : (0 : Int32) < (nI k)
        · skip
          have hk0 : 1 ≤ k := Nat.pos_of_ne_zero (fun c => by rw [c] at g80; exact absurd g80 (by decide))
          refine Ev.fg (L := [some (.ref y), some (.int (nI s)), some (.int (nI k0)), some (.int (nI S.1)), some (.int (nI k)), some (.int (nI ((S.1 + 1) - 1 - k'))), some (.int (nI (17 * k + ((S.1 + 1) - 1 - k')))), some (.int (nI ((S.2.2 9 2).toNatClampNeg)))]) ?_ (gs rfl (gs rfl (gs rfl (gs rfl (gs rfl (gs rfl (gs rfl (gs (congrArg Value.int hle.symm) gz))))))))
          refine lpe (fun (k'' : Nat) (z'' : (Nat → Int32) × (Nat → Int32) × (Nat → Int32) × (Nat → Int32)) => ((S.2.2 9 2).toNatClampNeg ≤ k'') → ∀ τ''' : ex_S, frm σ τ''' y (y + 17) → τ'''.2 (y + 1) = some (.inl (0, 4500, A)) → τ'''.2 y = some (.inr (.inr (10, mo y z''.1))) → τ'''.2 (y + 4) = some (.inl (0, 16, v_along)) → τ'''.2 (y + 5) = some (.inl (0, 119, z''.2.1)) → τ'''.2 (y + 6) = some (.inl (0, 119, z''.2.2.1)) → τ'''.2 (y + 7) = some (.inl (0, 119, z''.2.2.2)) → (∀ q, q ≠ y → q ≠ y + 5 → q ≠ y + 6 → q ≠ y + 7 → τ'''.2 q = σ.2 q) → Ev Γ 0 0 m_M_cuts 0 0 78 [some (.ref y), some (.int (nI s)), some (.int (nI k0)), some (.int (nI S.1)), some (.int (nI k)), some (.int (nI ((S.1 + 1) - 1 - k'))), some (.int (nI (17 * k + ((S.1 + 1) - 1 - k')))), some (.int (nI k''))] [] τ''' Q) (fun (r : (Nat → Int32) × (Nat → Int32) × (Nat → Int32) × (Nat → Int32)) => ∀ τ''' : ex_S, frm σ τ''' y (y + 17) → τ'''.2 (y + 1) = some (.inl (0, 4500, A)) → τ'''.2 y = some (.inr (.inr (10, mo y r.1))) → τ'''.2 (y + 4) = some (.inl (0, 16, v_along)) → τ'''.2 (y + 5) = some (.inl (0, 119, r.2.1)) → τ'''.2 (y + 6) = some (.inl (0, 119, r.2.2.1)) → τ'''.2 (y + 7) = some (.inl (0, 119, r.2.2.2)) → (∀ q, q ≠ y → q ≠ y + 5 → q ≠ y + 6 → q ≠ y + 7 → τ'''.2 q = σ.2 q) → Ev Γ 0 0 m_M_cuts 0 0 122 [some (.ref y), some (.int (nI s)), some (.int (nI k0)), some (.int (nI S.1)), some (.int (nI k)), some (.int (nI ((S.1 + 1) - 1 - k'))), none, none] [] τ''' Q) (F_m_cuts_78 S k0 g v_along v_bestSum v_bestMany v_bestSize k z k' z') ((S.2.2 9 3).toNatClampNeg + 1) (fun k'' z'' hk'' hx'' he => ?_) (((S.2.2 9 3).toNatClampNeg + 1) - ((S.2.2 9 2).toNatClampNeg)) ((S.2.2 9 2).toNatClampNeg) (z'.1, (upd z'.2.1 (17 * k + ((S.1 + 1) - 1 - k')) (0 : Int32)), (upd z'.2.2.1 (17 * k + ((S.1 + 1) - 1 - k')) (0 : Int32)), (upd z'.2.2.2 (17 * k + ((S.1 + 1) - 1 - k')) (0 : Int32))) (by omega) (fun zx hzx => ?_) (fun rx hrx => ?_) (Nat.le_refl _) τ7 fr m1 m0 m_along m_bestSum m_bestMany m_bestSize kp
          · skip
            intro hI''
            intro τ''' fr m1 m0 m_along m_bestSum m_bestMany m_bestSize kp
            have hM : isM _ y z''.1 A := ⟨m0, m1⟩
            refine Ev.iload rfl rfl ?_
            refine Ev.zle (tgt := 122) rfl (by decide) (fun c80 => absurd g80 c80) (fun c80 => ?_)
            refine Ev.iload rfl rfl ?_
            refine Ev.aload_n rfl rfl ?_
            refine Ev.getf rfl rfl m0 rfl ?_
            refine Ev.iload_n rfl rfl ?_
            refine Ev.iconst (v := 5) rfl (by decide) ?_
            refine Ev.iadd rfl ?_
            refine Ev.ialdN (k := s + 5) rfl m1 (nq_to (a := s + 5) (nq_add (a := s) (b := 5) rfl (rfl : (5 : Int32) = nI 5)) (by omega)) ⟨(by omega), by decide⟩ ?_
            rw [show A (s + 5) = _ from hS.2.2.1 3 (by decide)]
            refine Ev.jgt (tgt := 122) rfl (by decide) (fun c93 => absurd c93 (ngtN hk'' hmo (by omega))) (fun c93 => ?_)
            refine Ev.iload rfl rfl ?_
            refine Ev.iload rfl rfl ?_
            refine Ev.iadd rfl ?_
            refine Ev.iload_n rfl rfl ?_
            refine Ev.jgt (tgt := 122) rfl (by decide) (fun c102 => ?_) (fun c102 => ?_)
            · skip
              have hF : (F_m_cuts_78 S k0 g v_along v_bestSum v_bestMany v_bestSize k z k' z') k'' z'' = .inr (z''.1, z''.2.1, z''.2.2.1, z''.2.2.2) := by
                unfold F_m_cuts_78
                rw [if_pos c102]
              exact (he _ hF τ''' fr m1 m0 m_along m_bestSum m_bestMany m_bestSize kp).fg (gs rfl (gs rfl (gs rfl (gs rfl (gs rfl (gs rfl (gn (gn gz))))))))
            · skip
              have hfn := ln_c c102 rfl (by omega)
              refine Ev.aload_n rfl rfl ?_
              refine Ev.iload_n rfl rfl ?_
              refine Ev.iload rfl rfl ?_
              refine Ev.iload rfl rfl ?_
              refine Ev.iload rfl rfl ?_
              refine Ev.xV4u rfl rfl m0 rfl rfl (by decide) ⟨(Nat.le_refl _), (Nat.le_refl _)⟩ (m_cut_ok (a0 := 17 * k + ((S.1 + 1) - 1 - k')) (f := (S.1 + 1) - 1 - k') (n := k'') hM hS hs hwS m_along m_bestSum m_bestMany m_bestSize (by omega) (by omega) (by omega) (by omega) hal) (fun τ8 f1 q1 => ?_)
              obtain ⟨m0, m_bestSum, m_bestMany, m_bestSize, k1⟩ := q1
              have m1 := (k1 _ (by omega) (by omega) (by omega) (by omega)).trans m1
              have m_along := (k1 _ (by omega) (by omega) (by omega) (by omega)).trans m_along
              have kp : (∀ q, q ≠ y → q ≠ y + 5 → q ≠ y + 6 → q ≠ y + 7 → τ8.2 q = σ.2 q) := fun q n0 n1 n2 n3 => (k1 q (by omega) (by omega) (by omega) (by omega)).trans (kp q n0 n1 n2 n3)
              have fr := fr.step f1 (by omega) (by omega)
              have hM : isM _ y ((K_m_cut S (17 * k + ((S.1 + 1) - 1 - k')) ((S.1 + 1) - 1 - k') k'' z''.1 v_along z''.2.1 z''.2.2.1 z''.2.2.2).1) A := ⟨m0, m1⟩
              refine Ev.iinc (d := 1) rfl rfl rfl (by decide) rfl ?_
              refine Ev.goto (tgt := 78) rfl (by decide) ?_
              have hF : (F_m_cuts_78 S k0 g v_along v_bestSum v_bestMany v_bestSize k z k' z') k'' z'' = .inl ((K_m_cut S (17 * k + ((S.1 + 1) - 1 - k')) ((S.1 + 1) - 1 - k') k'' z''.1 v_along z''.2.1 z''.2.2.1 z''.2.2.2).1, (K_m_cut S (17 * k + ((S.1 + 1) - 1 - k')) ((S.1 + 1) - 1 - k') k'' z''.1 v_along z''.2.1 z''.2.2.1 z''.2.2.2).2.1, (K_m_cut S (17 * k + ((S.1 + 1) - 1 - k')) ((S.1 + 1) - 1 - k') k'' z''.1 v_along z''.2.1 z''.2.2.1 z''.2.2.2).2.2.1, (K_m_cut S (17 * k + ((S.1 + 1) - 1 - k')) ((S.1 + 1) - 1 - k') k'' z''.1 v_along z''.2.1 z''.2.2.1 z''.2.2.2).2.2.2) := by
                unfold F_m_cuts_78
                rw [if_neg c102]
              exact (hx'' _ hF (by show ((S.2.2 9 2).toNatClampNeg ≤ k'' + 1); omega) τ8 fr m1 m0 m_along m_bestSum m_bestMany m_bestSize kp).fg (gs rfl (gs rfl (gs rfl (gs rfl (gs rfl (gs rfl (gs rfl (gs (congrArg Value.int (show nI (k'' + 1) = (nI k'') + (1 : Int32) from (nq_to (a := k'' + 1) (nq_add (a := k'') (b := 1) rfl (rfl : (1 : Int32) = nI 1)) (by omega)).symm)) gz))))))))
          · skip
            intro hI''
            intro τ''' fr m1 m0 m_along m_bestSum m_bestMany m_bestSize kp
            have hM : isM _ y zx.1 A := ⟨m0, m1⟩
            refine Ev.iload rfl rfl ?_
            refine Ev.zle (tgt := 122) rfl (by decide) (fun c80 => absurd g80 c80) (fun c80 => ?_)
            refine Ev.iload rfl rfl ?_
            refine Ev.aload_n rfl rfl ?_
            refine Ev.getf rfl rfl m0 rfl ?_
            refine Ev.iload_n rfl rfl ?_
            refine Ev.iconst (v := 5) rfl (by decide) ?_
            refine Ev.iadd rfl ?_
            refine Ev.ialdN (k := s + 5) rfl m1 (nq_to (a := s + 5) (nq_add (a := s) (b := 5) rfl (rfl : (5 : Int32) = nI 5)) (by omega)) ⟨(by omega), by decide⟩ ?_
            rw [show A (s + 5) = _ from hS.2.2.1 3 (by decide)]
            refine Ev.jgt (tgt := 122) rfl (by decide) (fun c93 => ?_) (fun c93 => absurd (gtN hmo (by omega)) c93)
            refine Ev.iinc (d := (-1)) rfl rfl rfl (by decide) rfl ?_
            refine Ev.goto (tgt := 19) rfl (by decide) ?_
            have hF : (F_m_cuts_19 S k0 g v_along v_bestSum v_bestMany v_bestSize k z) k' z' = (zx.1, zx.2.1, zx.2.2.1, zx.2.2.2) := by
              unfold F_m_cuts_19
              rw [if_pos c43]
              rw [if_pos g80]
              rw [hzx, Sum.elim_inl]
            rw [hF] at hx'
            exact (hx' τ''' fr m1 m0 m_along m_bestSum m_bestMany m_bestSize kp).fg (gs rfl (gs rfl (gs rfl (gs rfl (gs rfl (gs (congrArg Value.int (down_back hk' (by omega))) (gn (gn gz))))))))
          · skip
            intro τ''' fr m1 m0 m_along m_bestSum m_bestMany m_bestSize kp
            have hM : isM _ y rx.1 A := ⟨m0, m1⟩
            refine Ev.iinc (d := (-1)) rfl rfl rfl (by decide) rfl ?_
            refine Ev.goto (tgt := 19) rfl (by decide) ?_
            have hF : (F_m_cuts_19 S k0 g v_along v_bestSum v_bestMany v_bestSize k z) k' z' = (rx.1, rx.2.1, rx.2.2.1, rx.2.2.2) := by
              unfold F_m_cuts_19
              rw [if_pos c43]
              rw [if_pos g80]
              rw [hrx, Sum.elim_inr]
            rw [hF] at hx'
            exact (hx' τ''' fr m1 m0 m_along m_bestSum m_bestMany m_bestSize kp).fg (gs rfl (gs rfl (gs rfl (gs rfl (gs rfl (gs (congrArg Value.int (down_back hk' (by omega))) (gn (gn gz))))))))
        · skip
          refine Ev.iload rfl rfl ?_
          refine Ev.zle (tgt := 122) rfl (by decide) (fun c80 => ?_) (fun c80 => absurd c80 g80)
          refine Ev.iinc (d := (-1)) rfl rfl rfl (by decide) rfl ?_
          refine Ev.goto (tgt := 19) rfl (by decide) ?_
          have hF : (F_m_cuts_19 S k0 g v_along v_bestSum v_bestMany v_bestSize k z) k' z' = (z'.1, (upd z'.2.1 (17 * k + ((S.1 + 1) - 1 - k')) (0 : Int32)), (upd z'.2.2.1 (17 * k + ((S.1 + 1) - 1 - k')) (0 : Int32)), (upd z'.2.2.2 (17 * k + ((S.1 + 1) - 1 - k')) (0 : Int32))) := by
            unfold F_m_cuts_19
            rw [if_pos c43]
            rw [if_neg g80]
          rw [hF] at hx'
          exact (hx' τ7 fr m1 m0 m_along m_bestSum m_bestMany m_bestSize kp).fg (gs rfl (gs rfl (gs rfl (gs rfl (gs rfl (gs (congrArg Value.int (down_back hk' (by omega))) (gn (gn gz))))))))
    · skip
      intro τ'' fr m1 m0 m_along m_bestSum m_bestMany m_bestSize kp
      have hM : isM _ y ((fo (F_m_cuts_19 S k0 g v_along v_bestSum v_bestMany v_bestSize k z) (S.1 + 1) 0 (z.1, z.2.1, z.2.2.1, z.2.2.2)).1) A := ⟨m0, m1⟩
      refine Ev.iload rfl rfl ?_
      refine Ev.zlt (tgt := 128) rfl (by decide) (fun c21 => ?_) (fun c21 => absurd (down_lt _) c21)
      refine Ev.iinc (d := 1) rfl rfl rfl (by decide) rfl ?_
      refine Ev.goto (tgt := 10) rfl (by decide) ?_
      have hF : (F_m_cuts_10 S k0 g v_along v_bestSum v_bestMany v_bestSize) k z = ((fo (F_m_cuts_19 S k0 g v_along v_bestSum v_bestMany v_bestSize k z) (S.1 + 1) 0 (z.1, z.2.1, z.2.2.1, z.2.2.2)).1, (fo (F_m_cuts_19 S k0 g v_along v_bestSum v_bestMany v_bestSize k z) (S.1 + 1) 0 (z.1, z.2.1, z.2.2.1, z.2.2.2)).2.1, (fo (F_m_cuts_19 S k0 g v_along v_bestSum v_bestMany v_bestSize k z) (S.1 + 1) 0 (z.1, z.2.1, z.2.2.1, z.2.2.2)).2.2.1, (fo (F_m_cuts_19 S k0 g v_along v_bestSum v_bestMany v_bestSize k z) (S.1 + 1) 0 (z.1, z.2.1, z.2.2.1, z.2.2.2)).2.2.2) := by rfl
      rw [hF] at hx
      exact (hx τ'' fr m1 m0 m_along m_bestSum m_bestMany m_bestSize kp).fg (gs rfl (gs rfl (gs rfl (gs rfl (gs (congrArg Value.int (show nI (k + 1) = (nI k) + (1 : Int32) from (nq_to (a := k + 1) (nq_add (a := k) (b := 1) rfl (rfl : (1 : Int32) = nI 1)) (by omega)).symm)) (gn (gn (gn gz))))))))
  · skip
    intro τ' fr m1 m0 m_along m_bestSum m_bestMany m_bestSize kp
    have hM : isM _ y ((fo (F_m_cuts_10 S k0 g v_along v_bestSum v_bestMany v_bestSize) (k0 + 1) 0 (g, v_bestSum, v_bestMany, v_bestSize)).1) A := ⟨m0, m1⟩
    refine Ev.iload rfl rfl ?_
    refine Ev.iload_n rfl rfl ?_
    refine Ev.jgt (tgt := 134) rfl (by decide) (fun c13 => ?_) (fun c13 => absurd (nI_lt (by omega) (by omega)) c13)
    refine Ev.ret rfl rfl (Nat.le_refl _) (Nat.le_refl _) ?_
    have hK : (K_m_cuts S k0 g v_along v_bestSum v_bestMany v_bestSize) = ((fo (F_m_cuts_10 S k0 g v_along v_bestSum v_bestMany v_bestSize) (k0 + 1) 0 (g, v_bestSum, v_bestMany, v_bestSize)).1, (fo (F_m_cuts_10 S k0 g v_along v_bestSum v_bestMany v_bestSize) (k0 + 1) 0 (g, v_bestSum, v_bestMany, v_bestSize)).2.1, (fo (F_m_cuts_10 S k0 g v_along v_bestSum v_bestMany v_bestSize) (k0 + 1) 0 (g, v_bestSum, v_bestMany, v_bestSize)).2.2.1, (fo (F_m_cuts_10 S k0 g v_along v_bestSum v_bestMany v_bestSize) (k0 + 1) 0 (g, v_bestSum, v_bestMany, v_bestSize)).2.2.2) := by rfl
    rw [← hQ]
    dsimp only
    rw [hK]
    exact ⟨rfl, fr, m0, m_bestSum, m_bestMany, m_bestSize, kp⟩
end
end
