/-! Printed by sym.py: weeks, on both sides. -/
noncomputable section
section
variable {Γ : ex_G} {σ : ex_S} {x q a p y : Nat} {S : Sch} {T : Tol} {P : Pln} {g A : Nat → Int32}
def K_draw (xv : Int32) : Int32 × Int32 := (((((xv * (1103515245 : Int32)) + (12345 : Int32)).toUInt32 >>> ((16 : Int32).toUInt32 &&& Int32.toUInt32 31)).toInt32) - ((((xv * (1103515245 : Int32)) + (12345 : Int32)).toUInt32 >>> ((16 : Int32).toUInt32 &&& Int32.toUInt32 31)).toInt32) / (100 : Int32) * (100 : Int32), (xv * (1103515245 : Int32)) + (12345 : Int32))
theorem draw_ok {xv : Int32} (htm : σ.2 q = some (.inr (.inr (9, [.int xv, .ref (q + 1), .ref (q + 2)])))) : RetX Γ m_Term_draw [(.ref q)] σ q (q + 1) (some (.int ((K_draw xv).1))) (fun τ => τ.2 q = some (.inr (.inr (9, [(.int ((K_draw xv).2)), (.ref (q + 1)), (.ref (q + 2))])))) := by
  unfold RetX
  generalize hQ : (fun (r : Option Value) (τ : ex_S) => r = some (.int ((K_draw xv).1)) ∧ frm σ τ q (q + 1) ∧ (fun τ : ex_S => τ.2 q = some (.inr (.inr (9, [(.int ((K_draw xv).2)), (.ref (q + 1)), (.ref (q + 2))])))) τ) = Q
  refine Ret.start pm_161 rfl ?_
  have fr : frm σ σ q (q + 1) := frm.rf
  refine Ev.aload_n rfl rfl ?_
  refine Ev.aload_n rfl rfl ?_
  refine Ev.getf rfl rfl htm rfl ?_
  refine Ev.ldc (v := (1103515245)) rfl rfl ?_
  refine Ev.imul rfl ?_
  refine Ev.sipush (v := 12345) rfl (by decide) ?_
  refine Ev.iadd rfl ?_
  refine Ev.putE rfl rfl htm rfl rfl rfl (Nat.le_of_ble_eq_true rfl) (fun τ1 f1 htm => ?_)
  replace htm : τ1.2 q = some (.inr (.inr (9, [(.int ((xv * (1103515245 : Int32)) + (12345 : Int32))), (.ref (q + 1)), (.ref (q + 2))]))) := htm
  have fr := fr.step f1 (by omega) (by omega)
  refine Ev.aload_n rfl rfl ?_
  refine Ev.getf rfl rfl htm rfl ?_
  refine Ev.bipush (v := 16) rfl (by decide) ?_
  refine Ev.iushr rfl ?_
  refine Ev.bipush (v := 100) rfl (by decide) ?_
  refine Ev.irem rfl (by decide) ?_
  refine Ev.iret (ty := .int) rfl rfl rfl (Nat.le_refl _) (Nat.le_refl _) ?_
  have hK : (K_draw xv) = (((((xv * (1103515245 : Int32)) + (12345 : Int32)).toUInt32 >>> ((16 : Int32).toUInt32 &&& Int32.toUInt32 31)).toInt32) - ((((xv * (1103515245 : Int32)) + (12345 : Int32)).toUInt32 >>> ((16 : Int32).toUInt32 &&& Int32.toUInt32 31)).toInt32) / (100 : Int32) * (100 : Int32), (xv * (1103515245 : Int32)) + (12345 : Int32)) := by rfl
  rw [← hQ]
  dsimp only
  rw [hK]
  exact ⟨rfl, fr, htm⟩
def F_shrink_3 (S : Sch) (C : Les) (k0 : Nat) (xv : Int32) (si : Nat → Int32) : Nat → (Int32 × (Nat → Int32)) → (Int32 × (Nat → Int32)) := fun k z => if (((z.2 k0) >>> ((nI k) &&& 31)) &&& (1 : Int32)) = (0 : Int32) then (z.1, z.2) else (if ((K_draw z.1).1) < (K_stay S (C 3) ((S.2.2 0) k)) then ((K_draw z.1).2, z.2) else ((K_draw z.1).2, (upd z.2 k0 ((z.2 k0) &&& (((1 : Int32) <<< ((nI k) &&& 31)) ^^^ (-1 : Int32))))))
def K_shrink (S : Sch) (C : Les) (k0 : Nat) (xv : Int32) (si : Nat → Int32) : Int32 × (Nat → Int32) := ((fo (F_shrink_3 S C k0 xv si) (S.1) 0 (xv, si)).1, (fo (F_shrink_3 S C k0 xv si) (S.1) 0 (xv, si)).2)
theorem shrink_ok {xv : Int32} {si en : Nat → Int32} (htm : σ.2 (q) = some (.inr (.inr (9, [.int xv, .ref (q + 1), .ref (q + 2)])))) (hsi : σ.2 (q + 1) = some (.inl (0, 6, si))) (hen : σ.2 (q + 2) = some (.inl (0, 6, en))) {c : Nat} {C : Les} (hS0 : isS σ a S) (hC0 : isL σ c C) (hn16 : S.1 ≤ 16) (ha : a + 11 ≤ q) (hc : c + 1 ≤ q) {k0 : Nat} (hk0 : k0 < 6) : RetX Γ m_Term_shrink [(.ref q), (.ref a), (.ref c), (.int (nI k0))] σ q (q + 3) none (fun τ => τ.2 q = some (.inr (.inr (9, [(.int ((K_shrink S C k0 xv si).1)), (.ref (q + 1)), (.ref (q + 2))]))) ∧ τ.2 (q + 1) = some (.inl (0, 6, (K_shrink S C k0 xv si).2)) ∧ τ.2 (q + 2) = some (.inl (0, 6, en))) := by
  unfold RetX
  generalize hQ : (fun (r : Option Value) (τ : ex_S) => r = none ∧ frm σ τ q (q + 3) ∧ (fun τ : ex_S => τ.2 q = some (.inr (.inr (9, [(.int ((K_shrink S C k0 xv si).1)), (.ref (q + 1)), (.ref (q + 2))]))) ∧ τ.2 (q + 1) = some (.inl (0, 6, (K_shrink S C k0 xv si).2)) ∧ τ.2 (q + 2) = some (.inl (0, 6, en))) τ) = Q
  refine Ret.start pm_160 rfl ?_
  have fr : frm σ σ q (q + 3) := frm.rf
  have hS := hS0.frm fr (by omega)
  obtain ⟨h0, h1, h2, h3, h4, h5, h6', h7, h8, h9, h10⟩ := id hS
  have hC := hC0.frm fr (by omega)
  refine Ev.iconst (v := 0) rfl (by decide) ?_
  refine Ev.istore rfl rfl rfl ?_
  refine Ev.fg (L := [some (.ref q), some (.ref a), some (.ref c), some (.int (nI k0)), some (.int (nI 0))]) ?_ (gs rfl (gs rfl (gs rfl (gs rfl (gs (congrArg Value.int (rfl : (0 : Int32) = nI 0).symm) gz)))))
  refine lp (fun (k : Nat) (z : Int32 × (Nat → Int32)) => ∀ τ' : ex_S, frm σ τ' q (q + 3) → τ'.2 q = some (.inr (.inr (9, [(.int z.1), (.ref (q + 1)), (.ref (q + 2))]))) → τ'.2 (q + 1) = some (.inl (0, 6, z.2)) → τ'.2 (q + 2) = some (.inl (0, 6, en)) → Ev Γ 0 0 m_Term_shrink 0 0 3 [some (.ref q), some (.ref a), some (.ref c), some (.int (nI k0)), some (.int (nI k))] [] τ' Q) (F_shrink_3 S C k0 xv si) (S.1) (fun k z hk hx => ?_) (S.1) 0 (xv, si) (by omega) ?_ σ fr htm hsi hen
  · skip
    intro τ' fr htm hsi hen
    have hS := hS0.frm fr (by omega)
    obtain ⟨h0, h1, h2, h3, h4, h5, h6', h7, h8, h9, h10⟩ := id hS
    have hC := hC0.frm fr (by omega)
    refine Ev.iload rfl rfl ?_
    refine Ev.aload_n rfl rfl ?_
    refine Ev.getf rfl rfl h0 rfl ?_
    refine Ev.jge (tgt := 69) rfl (by decide) (fun c9 => absurd (nI_lt hk (by omega)) c9) (fun c9 => ?_)
    refine Ev.aload_n rfl rfl ?_
    refine Ev.getf rfl rfl htm rfl ?_
    refine Ev.iload_n rfl rfl ?_
    refine Ev.ialdN (k := k0) rfl hsi rfl ⟨(by omega), by decide⟩ ?_
    refine Ev.iload rfl rfl ?_
    refine Ev.ishr rfl ?_
    refine Ev.iconst (v := 1) rfl (by decide) ?_
    refine Ev.iand rfl ?_
    refine Ev.zeq (tgt := 63) rfl (by decide) (fun c23 => ?_) (fun c23 => ?_)
    · skip
      refine Ev.iinc (d := 1) rfl rfl rfl (by decide) rfl ?_
      refine Ev.goto (tgt := 3) rfl (by decide) ?_
      have hF : (F_shrink_3 S C k0 xv si) k z = (z.1, z.2) := by
        unfold F_shrink_3
        rw [if_pos c23]
      rw [hF] at hx
      exact (hx τ' fr htm hsi hen).fg (gs rfl (gs rfl (gs rfl (gs rfl (gs (congrArg Value.int (show nI (k + 1) = (nI k) + (1 : Int32) from (nq_to (a := k + 1) (nq_add (a := k) (b := 1) rfl (rfl : (1 : Int32) = nI 1)) (by omega)).symm)) gz)))))
    · skip
      refine Ev.aload_n rfl rfl ?_
      refine Ev.xV0 rfl rfl htm rfl rfl (by decide) ⟨(Nat.le_refl _), (Nat.le_refl _)⟩ (draw_ok htm) (fun τ1 f1 q1 => ?_)
      have htm := q1
      have hsi := frm.cell f1 hsi (by omega)
      have hen := frm.cell f1 hen (by omega)
      have fr := fr.step f1 (by omega) (by omega)
      have hS := hS0.frm fr (by omega)
      obtain ⟨h0, h1, h2, h3, h4, h5, h6', h7, h8, h9, h10⟩ := id hS
      have hC := hC0.frm fr (by omega)
      refine Ev.aload_n rfl rfl ?_
      refine Ev.aload_n rfl rfl ?_
      refine Ev.getf rfl rfl hC rfl ?_
      refine Ev.aload_n rfl rfl ?_
      refine Ev.getf rfl rfl h0 rfl ?_
      refine Ev.iload rfl rfl ?_
      refine Ev.ialdN (k := k) rfl h1 rfl ⟨(by omega), by decide⟩ ?_
      refine Ev.cV2 rfl rfl h0 rfl rfl (by decide) ⟨(Nat.le_refl _), (Nat.le_refl _)⟩ (stay_ok hS _ _) ?_
      refine Ev.jlt (tgt := 63) rfl (by decide) (fun c45 => ?_) (fun c45 => ?_)
      · skip
        refine Ev.iinc (d := 1) rfl rfl rfl (by decide) rfl ?_
        refine Ev.goto (tgt := 3) rfl (by decide) ?_
        have hF : (F_shrink_3 S C k0 xv si) k z = ((K_draw z.1).2, z.2) := by
          unfold F_shrink_3
          rw [if_neg c23]
          rw [if_pos c45]
        rw [hF] at hx
        exact (hx τ1 fr htm hsi hen).fg (gs rfl (gs rfl (gs rfl (gs rfl (gs (congrArg Value.int (show nI (k + 1) = (nI k) + (1 : Int32) from (nq_to (a := k + 1) (nq_add (a := k) (b := 1) rfl (rfl : (1 : Int32) = nI 1)) (by omega)).symm)) gz)))))
      · skip
        refine Ev.aload_n rfl rfl ?_
        refine Ev.getf rfl rfl htm rfl ?_
        refine Ev.iload_n rfl rfl ?_
        refine Ev.dup2 rfl rfl rfl ?_
        refine Ev.ialdN (k := k0) rfl hsi rfl ⟨(by omega), by decide⟩ ?_
        refine Ev.iconst (v := 1) rfl (by decide) ?_
        refine Ev.iload rfl rfl ?_
        refine Ev.ishl rfl ?_
        refine Ev.iconst (v := (-1)) rfl (by decide) ?_
        refine Ev.ixor rfl ?_
        refine Ev.iand rfl ?_
        refine Ev.iastE (k := k0) rfl hsi rfl ⟨(by omega), by decide⟩ (fun τ2 f1 hsi => ?_)
        have htm := frm.cell f1 htm (by omega)
        have hen := frm.cell f1 hen (by omega)
        have fr := fr.step f1 (by omega) (by omega)
        have hS := hS0.frm fr (by omega)
        obtain ⟨h0, h1, h2, h3, h4, h5, h6', h7, h8, h9, h10⟩ := id hS
        have hC := hC0.frm fr (by omega)
        refine Ev.iinc (d := 1) rfl rfl rfl (by decide) rfl ?_
        refine Ev.goto (tgt := 3) rfl (by decide) ?_
        have hF : (F_shrink_3 S C k0 xv si) k z = ((K_draw z.1).2, (upd z.2 k0 ((z.2 k0) &&& (((1 : Int32) <<< ((nI k) &&& 31)) ^^^ (-1 : Int32))))) := by
          unfold F_shrink_3
          rw [if_neg c23]
          rw [if_neg c45]
        rw [hF] at hx
        exact (hx τ2 fr htm hsi hen).fg (gs rfl (gs rfl (gs rfl (gs rfl (gs (congrArg Value.int (show nI (k + 1) = (nI k) + (1 : Int32) from (nq_to (a := k + 1) (nq_add (a := k) (b := 1) rfl (rfl : (1 : Int32) = nI 1)) (by omega)).symm)) gz)))))
  · skip
    intro τ' fr htm hsi hen
    have hS := hS0.frm fr (by omega)
    obtain ⟨h0, h1, h2, h3, h4, h5, h6', h7, h8, h9, h10⟩ := id hS
    have hC := hC0.frm fr (by omega)
    refine Ev.iload rfl rfl ?_
    refine Ev.aload_n rfl rfl ?_
    refine Ev.getf rfl rfl h0 rfl ?_
    refine Ev.jge (tgt := 69) rfl (by decide) (fun c9 => ?_) (fun c9 => absurd c9 (nI_nlt (Nat.le_refl _) (by omega)))
    refine Ev.ret rfl rfl (Nat.le_refl _) (Nat.le_refl _) ?_
    have hK : (K_shrink S C k0 xv si) = ((fo (F_shrink_3 S C k0 xv si) (S.1) 0 (xv, si)).1, (fo (F_shrink_3 S C k0 xv si) (S.1) 0 (xv, si)).2) := by rfl
    rw [← hQ]
    dsimp only
    rw [hK]
    exact ⟨rfl, fr, htm, hsi, hen⟩
def F_run_8 (S : Sch) (P : Pln) (sd : Int32) (w : Nat) (si en : Nat → Int32) : Nat → ((Nat → Int32) × (Nat → Int32)) → ((Nat → Int32) × (Nat → Int32)) := fun k z => ((upd z.1 k ((P.2 k) 5)), (upd z.2 k (-1 : Int32)))
def F_run_61 (S : Sch) (P : Pln) (sd : Int32) (w : Nat) (si en : Nat → Int32) (k : Nat) (z : Int32 × (Nat → Int32) × (Nat → Int32)) : Nat → (Int32 × (Nat → Int32) × (Nat → Int32)) → (Int32 × (Nat → Int32) × (Nat → Int32)) := fun k' z' => if (z'.2.2 k') = (-1 : Int32) then (if (K_bc (((K_shrink S (P.2 k') k' z'.1 z'.2.1).2) k')) < ((S.2.2 9) 2) then ((K_shrink S (P.2 k') k' z'.1 z'.2.1).1, (upd ((K_shrink S (P.2 k') k' z'.1 z'.2.1).2) k' (0 : Int32)), (upd z'.2.2 k' (nI k))) else ((K_shrink S (P.2 k') k' z'.1 z'.2.1).1, (K_shrink S (P.2 k') k' z'.1 z'.2.1).2, z'.2.2)) else ((K_shrink S (P.2 k') k' z'.1 z'.2.1).1, (K_shrink S (P.2 k') k' z'.1 z'.2.1).2, z'.2.2)
def F_run_51 (S : Sch) (P : Pln) (sd : Int32) (w : Nat) (si en : Nat → Int32) : Nat → (Int32 × (Nat → Int32) × (Nat → Int32)) → (Int32 × (Nat → Int32) × (Nat → Int32)) := fun k z => ((fo (F_run_61 S P sd w si en k z) (P.1) 0 (z.1, z.2.1, z.2.2)).1, (fo (F_run_61 S P sd w si en k z) (P.1) 0 (z.1, z.2.1, z.2.2)).2.1, (fo (F_run_61 S P sd w si en k z) (P.1) 0 (z.1, z.2.1, z.2.2)).2.2)
def K_run (S : Sch) (P : Pln) (sd : Int32) (w : Nat) (si en : Nat → Int32) : Int32 × (Nat → Int32) × (Nat → Int32) := ((fo (F_run_51 S P sd w si en) ((w + 1) - 1) 1 (sd, (fo (F_run_8 S P sd w si en) (P.1) 0 (si, en)).1, (fo (F_run_8 S P sd w si en) (P.1) 0 (si, en)).2)).1, (fo (F_run_51 S P sd w si en) ((w + 1) - 1) 1 (sd, (fo (F_run_8 S P sd w si en) (P.1) 0 (si, en)).1, (fo (F_run_8 S P sd w si en) (P.1) 0 (si, en)).2)).2.1, (fo (F_run_51 S P sd w si en) ((w + 1) - 1) 1 (sd, (fo (F_run_8 S P sd w si en) (P.1) 0 (si, en)).1, (fo (F_run_8 S P sd w si en) (P.1) 0 (si, en)).2)).2.2)
theorem run_ok {xv : Int32} {si en : Nat → Int32} (htm : σ.2 (q) = some (.inr (.inr (9, [.int xv, .ref (q + 1), .ref (q + 2)])))) (hsi : σ.2 (q + 1) = some (.inl (0, 6, si))) (hen : σ.2 (q + 2) = some (.inl (0, 6, en))) (hS0 : isS σ a S) (hP0 : isP σ p P) (hn16 : S.1 ≤ 16) (h6 : P.1 ≤ 6) (ha : a + 11 ≤ q) (hp : p + 8 ≤ q) (sd : Int32) {wv : Int32} {w : Nat} (hwv : wv = nI w) (hw30 : w ≤ 30) : RetX Γ m_Term_run [(.ref q), (.ref a), (.ref p), (.int sd), .int wv] σ q (q + 3) none (fun τ => τ.2 q = some (.inr (.inr (9, [(.int ((K_run S P sd w si en).1)), (.ref (q + 1)), (.ref (q + 2))]))) ∧ τ.2 (q + 1) = some (.inl (0, 6, (K_run S P sd w si en).2.1)) ∧ τ.2 (q + 2) = some (.inl (0, 6, (K_run S P sd w si en).2.2))) := by
  subst hwv
  unfold RetX
  generalize hQ : (fun (r : Option Value) (τ : ex_S) => r = none ∧ frm σ τ q (q + 3) ∧ (fun τ : ex_S => τ.2 q = some (.inr (.inr (9, [(.int ((K_run S P sd w si en).1)), (.ref (q + 1)), (.ref (q + 2))]))) ∧ τ.2 (q + 1) = some (.inl (0, 6, (K_run S P sd w si en).2.1)) ∧ τ.2 (q + 2) = some (.inl (0, 6, (K_run S P sd w si en).2.2))) τ) = Q
  refine Ret.start pm_156 rfl ?_
  have fr : frm σ σ q (q + 3) := frm.rf
  have hS := hS0.frm fr (by omega)
  obtain ⟨h0, h1, h2, h3, h4, h5, h6', h7, h8, h9, h10⟩ := id hS
  have hP := hP0.frm fr (by omega)
  obtain ⟨p0, ⟨pf, p1, p2⟩, p3⟩ := id hP
  refine Ev.aload_n rfl rfl ?_
  refine Ev.iload_n rfl rfl ?_
  refine Ev.putE rfl rfl htm rfl rfl rfl (Nat.le_of_ble_eq_true rfl) (fun τ1 f1 htm => ?_)
  replace htm : τ1.2 q = some (.inr (.inr (9, [(.int sd), (.ref (q + 1)), (.ref (q + 2))]))) := htm
  have hsi := frm.cell f1 hsi (by omega)
  have hen := frm.cell f1 hen (by omega)
  have fr := fr.step f1 (by omega) (by omega)
  have hS := hS0.frm fr (by omega)
  obtain ⟨h0, h1, h2, h3, h4, h5, h6', h7, h8, h9, h10⟩ := id hS
  have hP := hP0.frm fr (by omega)
  obtain ⟨p0, ⟨pf, p1, p2⟩, p3⟩ := id hP
  refine Ev.iconst (v := 0) rfl (by decide) ?_
  refine Ev.istore rfl rfl rfl ?_
  refine Ev.fg (L := [some (.ref q), some (.ref a), some (.ref p), none, some (.int (nI w)), some (.int (nI 0)), none]) ?_ (gs rfl (gs rfl (gs rfl (gn (gs rfl (gs (congrArg Value.int (rfl : (0 : Int32) = nI 0).symm) (gn gz)))))))
  refine lp (fun (k : Nat) (z : (Nat → Int32) × (Nat → Int32)) => ∀ τ' : ex_S, frm σ τ' q (q + 3) → τ'.2 q = some (.inr (.inr (9, [(.int sd), (.ref (q + 1)), (.ref (q + 2))]))) → τ'.2 (q + 1) = some (.inl (0, 6, z.1)) → τ'.2 (q + 2) = some (.inl (0, 6, z.2)) → Ev Γ 0 0 m_Term_run 0 0 8 [some (.ref q), some (.ref a), some (.ref p), none, some (.int (nI w)), some (.int (nI k)), none] [] τ' Q) (F_run_8 S P sd w si en) (P.1) (fun k z hk hx => ?_) (P.1) 0 (si, en) (by omega) ?_ τ1 fr htm hsi hen
  · skip
    intro τ' fr htm hsi hen
    have hS := hS0.frm fr (by omega)
    obtain ⟨h0, h1, h2, h3, h4, h5, h6', h7, h8, h9, h10⟩ := id hS
    have hP := hP0.frm fr (by omega)
    obtain ⟨p0, ⟨pf, p1, p2⟩, p3⟩ := id hP
    refine Ev.iload rfl rfl ?_
    refine Ev.aload_n rfl rfl ?_
    refine Ev.getf rfl rfl p0 rfl ?_
    refine Ev.jge (tgt := 48) rfl (by decide) (fun c14 => absurd (nI_lt hk (by omega)) c14) (fun c14 => ?_)
    refine Ev.aload_n rfl rfl ?_
    refine Ev.getf rfl rfl htm rfl ?_
    refine Ev.iload rfl rfl ?_
    refine Ev.aload_n rfl rfl ?_
    refine Ev.getf rfl rfl p0 rfl ?_
    refine Ev.iload rfl rfl ?_
    refine Ev.aaldN (k := k) rfl p1 rfl rfl ⟨(by omega), by decide⟩ (p2 k (by omega)) ?_
    refine Ev.getf rfl rfl (p3 k (by omega)) rfl ?_
    refine Ev.iastE (k := k) rfl hsi rfl ⟨(by omega), by decide⟩ (fun τ2 f1 hsi => ?_)
    have htm := frm.cell f1 htm (by omega)
    have hen := frm.cell f1 hen (by omega)
    have fr := fr.step f1 (by omega) (by omega)
    have hS := hS0.frm fr (by omega)
    obtain ⟨h0, h1, h2, h3, h4, h5, h6', h7, h8, h9, h10⟩ := id hS
    have hP := hP0.frm fr (by omega)
    obtain ⟨p0, ⟨pf, p1, p2⟩, p3⟩ := id hP
    refine Ev.aload_n rfl rfl ?_
    refine Ev.getf rfl rfl htm rfl ?_
    refine Ev.iload rfl rfl ?_
    refine Ev.iconst (v := (-1)) rfl (by decide) ?_
    refine Ev.iastE (k := k) rfl hen rfl ⟨(by omega), by decide⟩ (fun τ3 f1 hen => ?_)
    have htm := frm.cell f1 htm (by omega)
    have hsi := frm.cell f1 hsi (by omega)
    have fr := fr.step f1 (by omega) (by omega)
    have hS := hS0.frm fr (by omega)
    obtain ⟨h0, h1, h2, h3, h4, h5, h6', h7, h8, h9, h10⟩ := id hS
    have hP := hP0.frm fr (by omega)
    obtain ⟨p0, ⟨pf, p1, p2⟩, p3⟩ := id hP
    refine Ev.iinc (d := 1) rfl rfl rfl (by decide) rfl ?_
    refine Ev.goto (tgt := 8) rfl (by decide) ?_
    have hF : (F_run_8 S P sd w si en) k z = ((upd z.1 k ((P.2 k) 5)), (upd z.2 k (-1 : Int32))) := by rfl
    rw [hF] at hx
    exact (hx τ3 fr htm hsi hen).fg (gs rfl (gs rfl (gs rfl (gn (gs rfl (gs (congrArg Value.int (show nI (k + 1) = (nI k) + (1 : Int32) from (nq_to (a := k + 1) (nq_add (a := k) (b := 1) rfl (rfl : (1 : Int32) = nI 1)) (by omega)).symm)) (gn gz)))))))
  · skip
    intro τ' fr htm hsi hen
    have hS := hS0.frm fr (by omega)
    obtain ⟨h0, h1, h2, h3, h4, h5, h6', h7, h8, h9, h10⟩ := id hS
    have hP := hP0.frm fr (by omega)
    obtain ⟨p0, ⟨pf, p1, p2⟩, p3⟩ := id hP
    refine Ev.iload rfl rfl ?_
    refine Ev.aload_n rfl rfl ?_
    refine Ev.getf rfl rfl p0 rfl ?_
    refine Ev.jge (tgt := 48) rfl (by decide) (fun c14 => ?_) (fun c14 => absurd c14 (nI_nlt (Nat.le_refl _) (by omega)))
    refine Ev.iconst (v := 1) rfl (by decide) ?_
    refine Ev.istore rfl rfl rfl ?_
    refine Ev.fg (L := [some (.ref q), some (.ref a), some (.ref p), none, some (.int (nI w)), some (.int (nI 1)), none]) ?_ (gs rfl (gs rfl (gs rfl (gn (gs rfl (gs (congrArg Value.int (rfl : (1 : Int32) = nI 1).symm) (gn gz)))))))
    refine lp (fun (k : Nat) (z : Int32 × (Nat → Int32) × (Nat → Int32)) => ∀ τ' : ex_S, frm σ τ' q (q + 3) → τ'.2 q = some (.inr (.inr (9, [(.int z.1), (.ref (q + 1)), (.ref (q + 2))]))) → τ'.2 (q + 1) = some (.inl (0, 6, z.2.1)) → τ'.2 (q + 2) = some (.inl (0, 6, z.2.2)) → Ev Γ 0 0 m_Term_run 0 0 51 [some (.ref q), some (.ref a), some (.ref p), none, some (.int (nI w)), some (.int (nI k)), none] [] τ' Q) (F_run_51 S P sd w si en) (w + 1) (fun k z hk hx => ?_) ((w + 1) - 1) 1 (sd, (fo (F_run_8 S P sd w si en) (P.1) 0 (si, en)).1, (fo (F_run_8 S P sd w si en) (P.1) 0 (si, en)).2) (by omega) ?_ τ' fr htm hsi hen
    · skip
      intro τ' fr htm hsi hen
      have hS := hS0.frm fr (by omega)
      obtain ⟨h0, h1, h2, h3, h4, h5, h6', h7, h8, h9, h10⟩ := id hS
      have hP := hP0.frm fr (by omega)
      obtain ⟨p0, ⟨pf, p1, p2⟩, p3⟩ := id hP
      refine Ev.iload rfl rfl ?_
      refine Ev.iload rfl rfl ?_
      refine Ev.jgt (tgt := 143) rfl (by decide) (fun c55 => absurd c55 (nI_nlt (by omega) (by omega))) (fun c55 => ?_)
      refine Ev.iconst (v := 0) rfl (by decide) ?_
      refine Ev.istore rfl rfl rfl ?_
      refine Ev.fg (L := [some (.ref q), some (.ref a), some (.ref p), none, some (.int (nI w)), some (.int (nI k)), some (.int (nI 0))]) ?_ (gs rfl (gs rfl (gs rfl (gn (gs rfl (gs rfl (gs (congrArg Value.int (rfl : (0 : Int32) = nI 0).symm) gz)))))))
      refine lp (fun (k' : Nat) (z' : Int32 × (Nat → Int32) × (Nat → Int32)) => ∀ τ'' : ex_S, frm σ τ'' q (q + 3) → τ''.2 q = some (.inr (.inr (9, [(.int z'.1), (.ref (q + 1)), (.ref (q + 2))]))) → τ''.2 (q + 1) = some (.inl (0, 6, z'.2.1)) → τ''.2 (q + 2) = some (.inl (0, 6, z'.2.2)) → Ev Γ 0 0 m_Term_run 0 0 61 [some (.ref q), some (.ref a), some (.ref p), none, some (.int (nI w)), some (.int (nI k)), some (.int (nI k'))] [] τ'' Q) (F_run_61 S P sd w si en k z) (P.1) (fun k' z' hk' hx' => ?_) (P.1) 0 (z.1, z.2.1, z.2.2) (by omega) ?_ τ' fr htm hsi hen
      · skip
        intro τ'' fr htm hsi hen
        have hS := hS0.frm fr (by omega)
        obtain ⟨h0, h1, h2, h3, h4, h5, h6', h7, h8, h9, h10⟩ := id hS
        have hP := hP0.frm fr (by omega)
        obtain ⟨p0, ⟨pf, p1, p2⟩, p3⟩ := id hP
        refine Ev.iload rfl rfl ?_
        refine Ev.aload_n rfl rfl ?_
        refine Ev.getf rfl rfl p0 rfl ?_
        refine Ev.jge (tgt := 137) rfl (by decide) (fun c67 => absurd (nI_lt hk' (by omega)) c67) (fun c67 => ?_)
        refine Ev.aload_n rfl rfl ?_
        refine Ev.aload_n rfl rfl ?_
        refine Ev.aload_n rfl rfl ?_
        refine Ev.getf rfl rfl p0 rfl ?_
        refine Ev.iload rfl rfl ?_
        refine Ev.aaldN (k := k') rfl p1 rfl rfl ⟨(by omega), by decide⟩ (p2 k' (by omega)) ?_
        refine Ev.iload rfl rfl ?_
        refine Ev.xV3u rfl rfl htm rfl rfl (by decide) ⟨(Nat.le_refl _), (Nat.le_refl _)⟩ (shrink_ok htm hsi hen hS (p3 k' (by omega)) (by omega) (by omega) (by omega) (by omega)) (fun τ4 f1 q1 => ?_)
        obtain ⟨htm, hsi, hen⟩ := q1
        have fr := fr.step f1 (by omega) (by omega)
        have hS := hS0.frm fr (by omega)
        obtain ⟨h0, h1, h2, h3, h4, h5, h6', h7, h8, h9, h10⟩ := id hS
        have hP := hP0.frm fr (by omega)
        obtain ⟨p0, ⟨pf, p1, p2⟩, p3⟩ := id hP
        refine Ev.aload_n rfl rfl ?_
        refine Ev.getf rfl rfl htm rfl ?_
        refine Ev.iload rfl rfl ?_
        refine Ev.ialdN (k := k') rfl hen rfl ⟨(by omega), by decide⟩ ?_
        refine Ev.iconst (v := (-1)) rfl (by decide) ?_
        refine Ev.jne (tgt := 131) rfl (by decide) (fun c92 => ?_) (fun c92 => ?_)
        · skip
          refine Ev.iinc (d := 1) rfl rfl rfl (by decide) rfl ?_
          refine Ev.goto (tgt := 61) rfl (by decide) ?_
          have hF : (F_run_61 S P sd w si en k z) k' z' = ((K_shrink S (P.2 k') k' z'.1 z'.2.1).1, (K_shrink S (P.2 k') k' z'.1 z'.2.1).2, z'.2.2) := by
            unfold F_run_61
            rw [if_neg c92]
          rw [hF] at hx'
          exact (hx' τ4 fr htm hsi hen).fg (gs rfl (gs rfl (gs rfl (gn (gs rfl (gs rfl (gs (congrArg Value.int (show nI (k' + 1) = (nI k') + (1 : Int32) from (nq_to (a := k' + 1) (nq_add (a := k') (b := 1) rfl (rfl : (1 : Int32) = nI 1)) (by omega)).symm)) gz)))))))
        · skip
          refine Ev.aload_n rfl rfl ?_
          refine Ev.getf rfl rfl htm rfl ?_
          refine Ev.iload rfl rfl ?_
          refine Ev.ialdN (k := k') rfl hsi rfl ⟨(by omega), by decide⟩ ?_
          refine Ev.cS1 rfl rfl rfl (by decide) ⟨(Nat.le_refl _), (Nat.le_refl _)⟩ (bc_ok _) ?_
          refine Ev.aload_n rfl rfl ?_
          refine Ev.getf rfl rfl h0 rfl ?_
          refine Ev.iconst (v := 2) rfl (by decide) ?_
          refine Ev.ialdN (k := 2) rfl h10 (rfl : (2 : Int32) = nI 2) ⟨(by omega), by decide⟩ ?_
          refine Ev.jge (tgt := 131) rfl (by decide) (fun c111 => ?_) (fun c111 => ?_)
          · skip
            refine Ev.iinc (d := 1) rfl rfl rfl (by decide) rfl ?_
            refine Ev.goto (tgt := 61) rfl (by decide) ?_
            have hF : (F_run_61 S P sd w si en k z) k' z' = ((K_shrink S (P.2 k') k' z'.1 z'.2.1).1, (K_shrink S (P.2 k') k' z'.1 z'.2.1).2, z'.2.2) := by
              unfold F_run_61
              rw [if_pos c92]
              rw [if_neg c111]
            rw [hF] at hx'
            exact (hx' τ4 fr htm hsi hen).fg (gs rfl (gs rfl (gs rfl (gn (gs rfl (gs rfl (gs (congrArg Value.int (show nI (k' + 1) = (nI k') + (1 : Int32) from (nq_to (a := k' + 1) (nq_add (a := k') (b := 1) rfl (rfl : (1 : Int32) = nI 1)) (by omega)).symm)) gz)))))))
          · skip
            refine Ev.aload_n rfl rfl ?_
            refine Ev.getf rfl rfl htm rfl ?_
            refine Ev.iload rfl rfl ?_
            refine Ev.iconst (v := 0) rfl (by decide) ?_
            refine Ev.iastE (k := k') rfl hsi rfl ⟨(by omega), by decide⟩ (fun τ5 f1 hsi => ?_)
            have htm := frm.cell f1 htm (by omega)
            have hen := frm.cell f1 hen (by omega)
            have fr := fr.step f1 (by omega) (by omega)
            have hS := hS0.frm fr (by omega)
            obtain ⟨h0, h1, h2, h3, h4, h5, h6', h7, h8, h9, h10⟩ := id hS
            have hP := hP0.frm fr (by omega)
            obtain ⟨p0, ⟨pf, p1, p2⟩, p3⟩ := id hP
            refine Ev.aload_n rfl rfl ?_
            refine Ev.getf rfl rfl htm rfl ?_
            refine Ev.iload rfl rfl ?_
            refine Ev.iload rfl rfl ?_
            refine Ev.iastE (k := k') rfl hen rfl ⟨(by omega), by decide⟩ (fun τ6 f1 hen => ?_)
            have htm := frm.cell f1 htm (by omega)
            have hsi := frm.cell f1 hsi (by omega)
            have fr := fr.step f1 (by omega) (by omega)
            have hS := hS0.frm fr (by omega)
            obtain ⟨h0, h1, h2, h3, h4, h5, h6', h7, h8, h9, h10⟩ := id hS
            have hP := hP0.frm fr (by omega)
            obtain ⟨p0, ⟨pf, p1, p2⟩, p3⟩ := id hP
            refine Ev.iinc (d := 1) rfl rfl rfl (by decide) rfl ?_
            refine Ev.goto (tgt := 61) rfl (by decide) ?_
            have hF : (F_run_61 S P sd w si en k z) k' z' = ((K_shrink S (P.2 k') k' z'.1 z'.2.1).1, (upd ((K_shrink S (P.2 k') k' z'.1 z'.2.1).2) k' (0 : Int32)), (upd z'.2.2 k' (nI k))) := by
              unfold F_run_61
              rw [if_pos c92]
              rw [if_pos c111]
            rw [hF] at hx'
            exact (hx' τ6 fr htm hsi hen).fg (gs rfl (gs rfl (gs rfl (gn (gs rfl (gs rfl (gs (congrArg Value.int (show nI (k' + 1) = (nI k') + (1 : Int32) from (nq_to (a := k' + 1) (nq_add (a := k') (b := 1) rfl (rfl : (1 : Int32) = nI 1)) (by omega)).symm)) gz)))))))
      · skip
        intro τ'' fr htm hsi hen
        have hS := hS0.frm fr (by omega)
        obtain ⟨h0, h1, h2, h3, h4, h5, h6', h7, h8, h9, h10⟩ := id hS
        have hP := hP0.frm fr (by omega)
        obtain ⟨p0, ⟨pf, p1, p2⟩, p3⟩ := id hP
        refine Ev.iload rfl rfl ?_
        refine Ev.aload_n rfl rfl ?_
        refine Ev.getf rfl rfl p0 rfl ?_
        refine Ev.jge (tgt := 137) rfl (by decide) (fun c67 => ?_) (fun c67 => absurd c67 (nI_nlt (Nat.le_refl _) (by omega)))
        refine Ev.iinc (d := 1) rfl rfl rfl (by decide) rfl ?_
        refine Ev.goto (tgt := 51) rfl (by decide) ?_
        have hF : (F_run_51 S P sd w si en) k z = ((fo (F_run_61 S P sd w si en k z) (P.1) 0 (z.1, z.2.1, z.2.2)).1, (fo (F_run_61 S P sd w si en k z) (P.1) 0 (z.1, z.2.1, z.2.2)).2.1, (fo (F_run_61 S P sd w si en k z) (P.1) 0 (z.1, z.2.1, z.2.2)).2.2) := by rfl
        rw [hF] at hx
        exact (hx τ'' fr htm hsi hen).fg (gs rfl (gs rfl (gs rfl (gn (gs rfl (gs (congrArg Value.int (show nI (k + 1) = (nI k) + (1 : Int32) from (nq_to (a := k + 1) (nq_add (a := k) (b := 1) rfl (rfl : (1 : Int32) = nI 1)) (by omega)).symm)) (gn gz)))))))
    · skip
      intro τ' fr htm hsi hen
      have hS := hS0.frm fr (by omega)
      obtain ⟨h0, h1, h2, h3, h4, h5, h6', h7, h8, h9, h10⟩ := id hS
      have hP := hP0.frm fr (by omega)
      obtain ⟨p0, ⟨pf, p1, p2⟩, p3⟩ := id hP
      refine Ev.iload rfl rfl ?_
      refine Ev.iload rfl rfl ?_
      refine Ev.jgt (tgt := 143) rfl (by decide) (fun c55 => ?_) (fun c55 => absurd (nI_lt (by omega) (by omega)) c55)
      refine Ev.ret rfl rfl (Nat.le_refl _) (Nat.le_refl _) ?_
      have hK : (K_run S P sd w si en) = ((fo (F_run_51 S P sd w si en) ((w + 1) - 1) 1 (sd, (fo (F_run_8 S P sd w si en) (P.1) 0 (si, en)).1, (fo (F_run_8 S P sd w si en) (P.1) 0 (si, en)).2)).1, (fo (F_run_51 S P sd w si en) ((w + 1) - 1) 1 (sd, (fo (F_run_8 S P sd w si en) (P.1) 0 (si, en)).1, (fo (F_run_8 S P sd w si en) (P.1) 0 (si, en)).2)).2.1, (fo (F_run_51 S P sd w si en) ((w + 1) - 1) 1 (sd, (fo (F_run_8 S P sd w si en) (P.1) 0 (si, en)).1, (fo (F_run_8 S P sd w si en) (P.1) 0 (si, en)).2)).2.2) := by rfl
      rw [← hQ]
      dsimp only
      rw [hK]
      exact ⟨rfl, fr, htm, hsi, hen⟩
def K_still (si : Nat → Int32) (k0 : Nat) : Int32 := K_bc (si k0)
theorem still_ok {xv : Int32} {si en : Nat → Int32} (htm : σ.2 (q) = some (.inr (.inr (9, [.int xv, .ref (q + 1), .ref (q + 2)])))) (hsi : σ.2 (q + 1) = some (.inl (0, 6, si))) (hen : σ.2 (q + 2) = some (.inl (0, 6, en))) {k0 : Nat} (hk0 : k0 < 6) : RetV Γ m_Term_stillIn [(.ref q), (.int (nI k0))] σ (.int (K_still si k0)) := by
  unfold RetV
  generalize hQ : (fun (r : Option Value) (σ' : ex_S) => r = some ((.int (K_still si k0)) : Value) ∧ σ' = σ) = Q
  refine Ret.start pm_157 rfl ?_
  refine Ev.iload_n rfl rfl ?_
  refine Ev.zlt (tgt := 22) rfl (by decide) (fun c1 => absurd c1 (nI_pos (by omega))) (fun c1 => ?_)
  refine Ev.iload_n rfl rfl ?_
  refine Ev.bipush (v := 6) rfl (by decide) ?_
  refine Ev.jge (tgt := 22) rfl (by decide) (fun c7 => absurd (nI_lt (b := 6) hk0 (by omega)) c7) (fun c7 => ?_)
  refine Ev.aload_n rfl rfl ?_
  refine Ev.getf rfl rfl htm rfl ?_
  refine Ev.iload_n rfl rfl ?_
  refine Ev.ialdN (k := k0) rfl hsi rfl ⟨(by omega), by decide⟩ ?_
  refine Ev.cS1 rfl rfl rfl (by decide) ⟨(Nat.le_refl _), (Nat.le_refl _)⟩ (bc_ok _) ?_
  refine Ev.goto (tgt := 23) rfl (by decide) ?_
  refine Ev.iret (ty := .int) rfl rfl rfl (Nat.le_refl _) (Nat.le_refl _) ?_
  rw [← hQ]
  refine ⟨congrArg (fun v => some (Value.int v)) (Eq.symm ?_), rfl⟩
  rfl
def K_endOf (en : Nat → Int32) (k0 : Nat) : Int32 := en k0
theorem endOf_ok {xv : Int32} {si en : Nat → Int32} (htm : σ.2 (q) = some (.inr (.inr (9, [.int xv, .ref (q + 1), .ref (q + 2)])))) (hsi : σ.2 (q + 1) = some (.inl (0, 6, si))) (hen : σ.2 (q + 2) = some (.inl (0, 6, en))) {k0 : Nat} (hk0 : k0 < 6) : RetV Γ m_Term_endOf [(.ref q), (.int (nI k0))] σ (.int (K_endOf en k0)) := by
  unfold RetV
  generalize hQ : (fun (r : Option Value) (σ' : ex_S) => r = some ((.int (K_endOf en k0)) : Value) ∧ σ' = σ) = Q
  refine Ret.start pm_159 rfl ?_
  refine Ev.iload_n rfl rfl ?_
  refine Ev.zlt (tgt := 19) rfl (by decide) (fun c1 => absurd c1 (nI_pos (by omega))) (fun c1 => ?_)
  refine Ev.iload_n rfl rfl ?_
  refine Ev.bipush (v := 6) rfl (by decide) ?_
  refine Ev.jge (tgt := 19) rfl (by decide) (fun c7 => absurd (nI_lt (b := 6) hk0 (by omega)) c7) (fun c7 => ?_)
  refine Ev.aload_n rfl rfl ?_
  refine Ev.getf rfl rfl htm rfl ?_
  refine Ev.iload_n rfl rfl ?_
  refine Ev.ialdN (k := k0) rfl hen rfl ⟨(by omega), by decide⟩ ?_
  refine Ev.goto (tgt := 20) rfl (by decide) ?_
  refine Ev.iret (ty := .int) rfl rfl rfl (Nat.le_refl _) (Nat.le_refl _) ?_
  rw [← hQ]
  refine ⟨congrArg (fun v => some (Value.int v)) (Eq.symm ?_), rfl⟩
  rfl
def F_stillAll_4 (si : Nat → Int32) (n : Nat) : Nat → Int32 → Int32 := fun k z => z + (K_still si k)
def K_stillAll (si : Nat → Int32) (n : Nat) : Int32 := (fo (F_stillAll_4 si n) (n) 0 (0 : Int32))
theorem stillAll_ok {xv : Int32} {si en : Nat → Int32} (htm : σ.2 (q) = some (.inr (.inr (9, [.int xv, .ref (q + 1), .ref (q + 2)])))) (hsi : σ.2 (q + 1) = some (.inl (0, 6, si))) (hen : σ.2 (q + 2) = some (.inl (0, 6, en))) {n : Nat} (hn : n ≤ 6) : RetV Γ m_Term_stillInAll [(.ref q), (.int (nI n))] σ (.int (K_stillAll si n)) := by
  unfold RetV
  generalize hQ : (fun (r : Option Value) (σ' : ex_S) => r = some ((.int (K_stillAll si n)) : Value) ∧ σ' = σ) = Q
  refine Ret.start pm_158 rfl ?_
  refine Ev.iconst (v := 0) rfl (by decide) ?_
  refine Ev.istore_n rfl rfl rfl ?_
  refine Ev.iconst (v := 0) rfl (by decide) ?_
  refine Ev.istore_n rfl rfl rfl ?_
  refine Ev.fg (L := [some (.ref q), some (.int (nI n)), some (.int (0 : Int32)), some (.int (nI 0))]) ?_ (gs rfl (gs rfl (gs rfl (gs (congrArg Value.int (rfl : (0 : Int32) = nI 0).symm) gz))))
  refine lp (fun (k : Nat) (z : Int32) => Ev Γ 0 0 m_Term_stillInAll 0 0 4 [some (.ref q), some (.int (nI n)), some (.int z), some (.int (nI k))] [] σ Q) (F_stillAll_4 si n) (n) (fun k z hk hx => ?_) (n) 0 (0 : Int32) (by omega) ?_
  · skip
    refine Ev.iload_n rfl rfl ?_
    refine Ev.iload_n rfl rfl ?_
    refine Ev.jge (tgt := 23) rfl (by decide) (fun c6 => absurd (nI_lt hk (by omega)) c6) (fun c6 => ?_)
    refine Ev.iload_n rfl rfl ?_
    refine Ev.aload_n rfl rfl ?_
    refine Ev.iload_n rfl rfl ?_
    refine Ev.cV1 rfl rfl htm rfl rfl (by decide) ⟨(Nat.le_refl _), (Nat.le_refl _)⟩ (still_ok htm hsi hen (by omega)) ?_
    refine Ev.iadd rfl ?_
    refine Ev.istore_n rfl rfl rfl ?_
    refine Ev.iinc (d := 1) rfl rfl rfl (by decide) rfl ?_
    refine Ev.goto (tgt := 4) rfl (by decide) ?_
    have hF : (F_stillAll_4 si n) k z = z + (K_still si k) := by rfl
    rw [hF] at hx
    exact hx.fg (gs rfl (gs rfl (gs rfl (gs (congrArg Value.int (show nI (k + 1) = (nI k) + (1 : Int32) from (nq_to (a := k + 1) (nq_add (a := k) (b := 1) rfl (rfl : (1 : Int32) = nI 1)) (by omega)).symm)) gz))))
  · skip
    refine Ev.iload_n rfl rfl ?_
    refine Ev.iload_n rfl rfl ?_
    refine Ev.jge (tgt := 23) rfl (by decide) (fun c6 => ?_) (fun c6 => absurd c6 (nI_nlt (Nat.le_refl _) (by omega)))
    refine Ev.iload_n rfl rfl ?_
    refine Ev.iret (ty := .int) rfl rfl rfl (Nat.le_refl _) (Nat.le_refl _) ?_
    rw [← hQ]
    refine ⟨congrArg (fun v => some (Value.int v)) (Eq.symm ?_), rfl⟩
    rfl
theorem K_inwk {S : Sch} (hw : wS S) {w : Nat} (h : w ≤ (S.2.2 9 7).toNatClampNeg) : K_in (nI w) 0 (S.2.2 9 7) = 1 := by
  obtain ⟨q, e, -, h2, -⟩ := hw.2.2.2.2.2.2.2.2.2.2.2.2.2.1.nat (by decide)
  rw [e, nI_clamp (by omega)] at h
  unfold K_in
  rw [if_neg (nI_pos (by omega)), e, if_neg (nI_nlt h (by omega))]
theorem K_in18 {w : Nat} (h1 : 1 ≤ w) (h : w ≤ 8) : K_in (nI w) 1 8 = 1 := by
  have e1 : (1 : Int32) = nI 1 := rfl
  have e2 : (8 : Int32) = nI 8 := rfl
  unfold K_in
  rw [e1, if_neg (nI_nlt h1 (by omega)), e2, if_neg (nI_nlt h (by omega))]
theorem wk_cl {S : Sch} (hw : wS S) : S.2.2 9 7 = nI (S.2.2 9 7).toNatClampNeg ∧ (S.2.2 9 7).toNatClampNeg ≤ 30 := by
  obtain ⟨q, e, -, h2, -⟩ := hw.2.2.2.2.2.2.2.2.2.2.2.2.2.1.nat (by decide)
  rw [e, nI_clamp (by omega)]
  exact ⟨rfl, by omega⟩
theorem wk_n {S : Sch} (hw : wS S) {w : Nat} (h : w ≤ (S.2.2 9 7).toNatClampNeg) : ¬ S.2.2 9 7 < nI w := by
  obtain ⟨h1, h2⟩ := wk_cl hw
  rw [h1]
  exact nI_nlt h (by omega)
def K_weeksA (T : Tol) (i j : Nat) (sd : Int32) (w : Nat) (xv : Int32) (si en : Nat → Int32) : Int32 × Int32 × (Nat → Int32) × (Nat → Int32) := (K_stillAll ((K_run (tS T i) (tP T j) sd w si en).2.1) ((tP T j).1), (K_run (tS T i) (tP T j) sd w si en).1, (K_run (tS T i) (tP T j) sd w si en).2.1, (K_run (tS T i) (tP T j) sd w si en).2.2)
theorem weeksA_some (hX0 : isX σ x) (hT0 : isT σ (x + 1) T) (hw : wT T) {u v : Int32} {i j : Nat} (hg : gd T u v i j) {xv : Int32} {si en : Nat → Int32} (htm : σ.2 (x + 112) = some (.inr (.inr (9, [.int xv, .ref (x + 112 + 1), .ref (x + 112 + 2)])))) (hsi : σ.2 (x + 112 + 1) = some (.inl (0, 6, si))) (hen : σ.2 (x + 112 + 2) = some (.inl (0, 6, en))) (sd : Int32) {w : Nat} (hww : w ≤ ((tS T i).2.2 9 7).toNatClampNeg) : RetX Γ m_SD_weeks [(.ref x), .int u, .int v, (.int sd), (.int (nI w)), (.int (-1 : Int32))] σ (x + 112) (x + 115) (some (.int ((K_weeksA T i j sd w xv si en).1))) (fun τ => τ.2 (x + 112) = some (.inr (.inr (9, [(.int ((K_weeksA T i j sd w xv si en).2.1)), (.ref (x + 112 + 1)), (.ref (x + 112 + 2))]))) ∧ τ.2 (x + 112 + 1) = some (.inl (0, 6, (K_weeksA T i j sd w xv si en).2.2.1)) ∧ τ.2 (x + 112 + 2) = some (.inl (0, 6, (K_weeksA T i j sd w xv si en).2.2.2))) := by
  obtain ⟨rfl, hi, rfl, hj, hgo⟩ := hg
  have hw1 := hw.2.1
  have hw2 := hw.2.2.1
  have hwS := hw.2.2.2.1 i hi
  have hwP := hw.2.2.2.2 j hj
  have hn16 := hwS.1
  have hn5 := hwS.2.1
  have h6 := hwP.1
  have hokL : ∀ k, k < (tP T j).1 → okL (tS T i) ((tP T j).2 k) := fun k hk => goT_okL hwS (hgo k hk).1
  have hwk30 := (wk_cl hwS).2
  unfold RetX
  generalize hQ : (fun (r : Option Value) (τ : ex_S) => r = some (.int ((K_weeksA T i j sd w xv si en).1)) ∧ frm σ τ (x + 112) (x + 115) ∧ (fun τ : ex_S => τ.2 (x + 112) = some (.inr (.inr (9, [(.int ((K_weeksA T i j sd w xv si en).2.1)), (.ref (x + 112 + 1)), (.ref (x + 112 + 2))]))) ∧ τ.2 (x + 112 + 1) = some (.inl (0, 6, (K_weeksA T i j sd w xv si en).2.2.1)) ∧ τ.2 (x + 112 + 2) = some (.inl (0, 6, (K_weeksA T i j sd w xv si en).2.2.2))) τ) = Q
  refine Ret.start pm_27 rfl ?_
  have fr : frm σ σ (x + 112) (x + 115) := frm.rf
  have hX := isX.frm hX0 fr (by omega)
  have hT := isT.frm hT0 fr (by omega)
  obtain ⟨t0, t1, ⟨fs, t2, t3⟩, ⟨fp, t4, t5⟩, t6, t7⟩ := id hT
  have hSi := t6 i (by omega)
  obtain ⟨h0, h1, h2, h3, h4, h5, h6', h7, h8, h9, h10⟩ := id hSi
  have hPj := t7 j (by omega)
  obtain ⟨p0, ⟨pf, p1, p2⟩, p3⟩ := id hPj
  refine Ev.aload_n rfl rfl ?_
  refine Ev.iload_n rfl rfl ?_
  refine Ev.iload_n rfl rfl ?_
  refine Ev.cV2 rfl rfl hX rfl rfl (by decide) ⟨(Nat.le_refl _), (Nat.le_refl _)⟩ (going_some hX hT hw ⟨rfl, hi, rfl, hj, hgo⟩) ?_
  refine Ev.astore rfl rfl rfl ?_
  refine Ev.aload_n rfl rfl ?_
  refine Ev.getf rfl rfl hX rfl ?_
  refine Ev.iload_n rfl rfl ?_
  refine Ev.cV1 rfl rfl t0 rfl rfl (by decide) ⟨(Nat.le_refl _), (Nat.le_refl _)⟩ (schoolAt_some hT hw1 hi) ?_
  refine Ev.astore rfl rfl rfl ?_
  refine Ev.aload rfl rfl ?_
  refine Ev.ifnull rfl ?_
  refine Ev.aload rfl rfl ?_
  refine Ev.ifnull rfl ?_
  refine Ev.iload rfl rfl ?_
  refine Ev.zlt (tgt := 46) rfl (by decide) (fun c30 => absurd c30 (nI_pos (by omega))) (fun c30 => ?_)
  refine Ev.iload rfl rfl ?_
  refine Ev.aload rfl rfl ?_
  refine Ev.getf rfl rfl h0 rfl ?_
  refine Ev.bipush (v := 7) rfl (by decide) ?_
  refine Ev.ialdN (k := 7) rfl h10 (rfl : (7 : Int32) = nI 7) ⟨(by omega), by decide⟩ ?_
  refine Ev.jle (tgt := 48) rfl (by decide) (fun c43 => ?_) (fun c43 => absurd c43 (wk_n hwS hww))
  refine Ev.iload rfl rfl ?_
  refine Ev.iconst (v := (-1)) rfl (by decide) ?_
  refine Ev.jeq (tgt := 66) rfl (by decide) (fun c51 => ?_) (fun c51 => absurd (by decide) c51)
  refine Ev.aload_n rfl rfl ?_
  refine Ev.getf rfl rfl hX rfl ?_
  refine Ev.aload rfl rfl ?_
  refine Ev.aload rfl rfl ?_
  refine Ev.iload_n rfl rfl ?_
  refine Ev.iload rfl rfl ?_
  refine Ev.xV4u rfl rfl htm rfl rfl (by decide) ⟨(Nat.le_refl _), (Nat.le_refl _)⟩ (run_ok htm hsi hen hSi hPj (by omega) (by omega) (by omega) (by omega) _ rfl (by omega)) (fun τ1 f1 q1 => ?_)
  obtain ⟨htm, hsi, hen⟩ := q1
  have fr := fr.step f1 (by omega) (by omega)
  have hX := isX.frm hX0 fr (by omega)
  have hT := isT.frm hT0 fr (by omega)
  obtain ⟨t0, t1, ⟨fs, t2, t3⟩, ⟨fp, t4, t5⟩, t6, t7⟩ := id hT
  have hSi := t6 i (by omega)
  obtain ⟨h0, h1, h2, h3, h4, h5, h6', h7, h8, h9, h10⟩ := id hSi
  have hPj := t7 j (by omega)
  obtain ⟨p0, ⟨pf, p1, p2⟩, p3⟩ := id hPj
  refine Ev.iload rfl rfl ?_
  refine Ev.iconst (v := (-1)) rfl (by decide) ?_
  refine Ev.jne (tgt := 101) rfl (by decide) (fun c83 => absurd (by decide) c83) (fun c83 => ?_)
  refine Ev.aload_n rfl rfl ?_
  refine Ev.getf rfl rfl hX rfl ?_
  refine Ev.aload rfl rfl ?_
  refine Ev.getf rfl rfl p0 rfl ?_
  refine Ev.cV1 rfl rfl htm rfl rfl (by decide) ⟨(Nat.le_refl _), (Nat.le_refl _)⟩ (stillAll_ok htm hsi hen (by omega)) ?_
  refine Ev.goto (tgt := 110) rfl (by decide) ?_
  refine Ev.iret (ty := .int) rfl rfl rfl (Nat.le_refl _) (Nat.le_refl _) ?_
  have hK : (K_weeksA T i j sd w xv si en) = (K_stillAll ((K_run (tS T i) (tP T j) sd w si en).2.1) ((tP T j).1), (K_run (tS T i) (tP T j) sd w si en).1, (K_run (tS T i) (tP T j) sd w si en).2.1, (K_run (tS T i) (tP T j) sd w si en).2.2) := by rfl
  rw [← hQ]
  dsimp only
  rw [hK]
  exact ⟨rfl, fr, htm, hsi, hen⟩
def K_weeksK (T : Tol) (i j : Nat) (sd : Int32) (w k0 : Nat) (xv : Int32) (si en : Nat → Int32) : Int32 × Int32 × (Nat → Int32) × (Nat → Int32) := (K_still ((K_run (tS T i) (tP T j) sd w si en).2.1) k0, (K_run (tS T i) (tP T j) sd w si en).1, (K_run (tS T i) (tP T j) sd w si en).2.1, (K_run (tS T i) (tP T j) sd w si en).2.2)
theorem weeksK_some (hX0 : isX σ x) (hT0 : isT σ (x + 1) T) (hw : wT T) {u v : Int32} {i j : Nat} (hg : gd T u v i j) {xv : Int32} {si en : Nat → Int32} (htm : σ.2 (x + 112) = some (.inr (.inr (9, [.int xv, .ref (x + 112 + 1), .ref (x + 112 + 2)])))) (hsi : σ.2 (x + 112 + 1) = some (.inl (0, 6, si))) (hen : σ.2 (x + 112 + 2) = some (.inl (0, 6, en))) (sd : Int32) {w k0 : Nat} (hww : w ≤ ((tS T i).2.2 9 7).toNatClampNeg) (hkk : k0 < (tP T j).1) : RetX Γ m_SD_weeks [(.ref x), .int u, .int v, (.int sd), (.int (nI w)), (.int (nI k0))] σ (x + 112) (x + 115) (some (.int ((K_weeksK T i j sd w k0 xv si en).1))) (fun τ => τ.2 (x + 112) = some (.inr (.inr (9, [(.int ((K_weeksK T i j sd w k0 xv si en).2.1)), (.ref (x + 112 + 1)), (.ref (x + 112 + 2))]))) ∧ τ.2 (x + 112 + 1) = some (.inl (0, 6, (K_weeksK T i j sd w k0 xv si en).2.2.1)) ∧ τ.2 (x + 112 + 2) = some (.inl (0, 6, (K_weeksK T i j sd w k0 xv si en).2.2.2))) := by
  obtain ⟨rfl, hi, rfl, hj, hgo⟩ := hg
  have hw1 := hw.2.1
  have hw2 := hw.2.2.1
  have hwS := hw.2.2.2.1 i hi
  have hwP := hw.2.2.2.2 j hj
  have hn16 := hwS.1
  have hn5 := hwS.2.1
  have h6 := hwP.1
  have hokL : ∀ k, k < (tP T j).1 → okL (tS T i) ((tP T j).2 k) := fun k hk => goT_okL hwS (hgo k hk).1
  have hwk30 := (wk_cl hwS).2
  unfold RetX
  generalize hQ : (fun (r : Option Value) (τ : ex_S) => r = some (.int ((K_weeksK T i j sd w k0 xv si en).1)) ∧ frm σ τ (x + 112) (x + 115) ∧ (fun τ : ex_S => τ.2 (x + 112) = some (.inr (.inr (9, [(.int ((K_weeksK T i j sd w k0 xv si en).2.1)), (.ref (x + 112 + 1)), (.ref (x + 112 + 2))]))) ∧ τ.2 (x + 112 + 1) = some (.inl (0, 6, (K_weeksK T i j sd w k0 xv si en).2.2.1)) ∧ τ.2 (x + 112 + 2) = some (.inl (0, 6, (K_weeksK T i j sd w k0 xv si en).2.2.2))) τ) = Q
  refine Ret.start pm_27 rfl ?_
  have fr : frm σ σ (x + 112) (x + 115) := frm.rf
  have hX := isX.frm hX0 fr (by omega)
  have hT := isT.frm hT0 fr (by omega)
  obtain ⟨t0, t1, ⟨fs, t2, t3⟩, ⟨fp, t4, t5⟩, t6, t7⟩ := id hT
  have hSi := t6 i (by omega)
  obtain ⟨h0, h1, h2, h3, h4, h5, h6', h7, h8, h9, h10⟩ := id hSi
  have hPj := t7 j (by omega)
  obtain ⟨p0, ⟨pf, p1, p2⟩, p3⟩ := id hPj
  refine Ev.aload_n rfl rfl ?_
  refine Ev.iload_n rfl rfl ?_
  refine Ev.iload_n rfl rfl ?_
  refine Ev.cV2 rfl rfl hX rfl rfl (by decide) ⟨(Nat.le_refl _), (Nat.le_refl _)⟩ (going_some hX hT hw ⟨rfl, hi, rfl, hj, hgo⟩) ?_
  refine Ev.astore rfl rfl rfl ?_
  refine Ev.aload_n rfl rfl ?_
  refine Ev.getf rfl rfl hX rfl ?_
  refine Ev.iload_n rfl rfl ?_
  refine Ev.cV1 rfl rfl t0 rfl rfl (by decide) ⟨(Nat.le_refl _), (Nat.le_refl _)⟩ (schoolAt_some hT hw1 hi) ?_
  refine Ev.astore rfl rfl rfl ?_
  refine Ev.aload rfl rfl ?_
  refine Ev.ifnull rfl ?_
  refine Ev.aload rfl rfl ?_
  refine Ev.ifnull rfl ?_
  refine Ev.iload rfl rfl ?_
  refine Ev.zlt (tgt := 46) rfl (by decide) (fun c30 => absurd c30 (nI_pos (by omega))) (fun c30 => ?_)
  refine Ev.iload rfl rfl ?_
  refine Ev.aload rfl rfl ?_
  refine Ev.getf rfl rfl h0 rfl ?_
  refine Ev.bipush (v := 7) rfl (by decide) ?_
  refine Ev.ialdN (k := 7) rfl h10 (rfl : (7 : Int32) = nI 7) ⟨(by omega), by decide⟩ ?_
  refine Ev.jle (tgt := 48) rfl (by decide) (fun c43 => ?_) (fun c43 => absurd c43 (wk_n hwS hww))
  refine Ev.iload rfl rfl ?_
  refine Ev.iconst (v := (-1)) rfl (by decide) ?_
  refine Ev.jeq (tgt := 66) rfl (by decide) (fun c51 => absurd c51 (nI_ne_neg1 (by omega))) (fun c51 => ?_)
  refine Ev.aload rfl rfl ?_
  refine Ev.iload rfl rfl ?_
  refine Ev.cS2 rfl rfl rfl (by decide) ⟨(Nat.le_refl _), (Nat.le_refl _)⟩ (lessonOf_some hPj h6 hkk) ?_
  refine Ev.ifnonnull (tgt := 66) rfl (by decide) ?_
  refine Ev.aload_n rfl rfl ?_
  refine Ev.getf rfl rfl hX rfl ?_
  refine Ev.aload rfl rfl ?_
  refine Ev.aload rfl rfl ?_
  refine Ev.iload_n rfl rfl ?_
  refine Ev.iload rfl rfl ?_
  refine Ev.xV4u rfl rfl htm rfl rfl (by decide) ⟨(Nat.le_refl _), (Nat.le_refl _)⟩ (run_ok htm hsi hen hSi hPj (by omega) (by omega) (by omega) (by omega) _ rfl (by omega)) (fun τ1 f1 q1 => ?_)
  obtain ⟨htm, hsi, hen⟩ := q1
  have fr := fr.step f1 (by omega) (by omega)
  have hX := isX.frm hX0 fr (by omega)
  have hT := isT.frm hT0 fr (by omega)
  obtain ⟨t0, t1, ⟨fs, t2, t3⟩, ⟨fp, t4, t5⟩, t6, t7⟩ := id hT
  have hSi := t6 i (by omega)
  obtain ⟨h0, h1, h2, h3, h4, h5, h6', h7, h8, h9, h10⟩ := id hSi
  have hPj := t7 j (by omega)
  obtain ⟨p0, ⟨pf, p1, p2⟩, p3⟩ := id hPj
  refine Ev.iload rfl rfl ?_
  refine Ev.iconst (v := (-1)) rfl (by decide) ?_
  refine Ev.jne (tgt := 101) rfl (by decide) (fun c83 => ?_) (fun c83 => absurd c83 (nI_ne_neg1 (by omega)))
  refine Ev.aload_n rfl rfl ?_
  refine Ev.getf rfl rfl hX rfl ?_
  refine Ev.iload rfl rfl ?_
  refine Ev.cV1 rfl rfl htm rfl rfl (by decide) ⟨(Nat.le_refl _), (Nat.le_refl _)⟩ (still_ok htm hsi hen (by omega)) ?_
  refine Ev.iret (ty := .int) rfl rfl rfl (Nat.le_refl _) (Nat.le_refl _) ?_
  have hK : (K_weeksK T i j sd w k0 xv si en) = (K_still ((K_run (tS T i) (tP T j) sd w si en).2.1) k0, (K_run (tS T i) (tP T j) sd w si en).1, (K_run (tS T i) (tP T j) sd w si en).2.1, (K_run (tS T i) (tP T j) sd w si en).2.2) := by rfl
  rw [← hQ]
  dsimp only
  rw [hK]
  exact ⟨rfl, fr, htm, hsi, hen⟩
def K_ended (T : Tol) (i j : Nat) (sd : Int32) (k0 : Nat) (xv : Int32) (si en : Nat → Int32) : Int32 × Int32 × (Nat → Int32) × (Nat → Int32) := (K_endOf ((K_run (tS T i) (tP T j) sd ((((tS T i).2.2 9) 7).toNatClampNeg) si en).2.2) k0, (K_run (tS T i) (tP T j) sd ((((tS T i).2.2 9) 7).toNatClampNeg) si en).1, (K_run (tS T i) (tP T j) sd ((((tS T i).2.2 9) 7).toNatClampNeg) si en).2.1, (K_run (tS T i) (tP T j) sd ((((tS T i).2.2 9) 7).toNatClampNeg) si en).2.2)
theorem ended_some (hX0 : isX σ x) (hT0 : isT σ (x + 1) T) (hw : wT T) {u v : Int32} {i j : Nat} (hg : gd T u v i j) {xv : Int32} {si en : Nat → Int32} (htm : σ.2 (x + 112) = some (.inr (.inr (9, [.int xv, .ref (x + 112 + 1), .ref (x + 112 + 2)])))) (hsi : σ.2 (x + 112 + 1) = some (.inl (0, 6, si))) (hen : σ.2 (x + 112 + 2) = some (.inl (0, 6, en))) (sd : Int32) {k0 : Nat} (hkk : k0 < (tP T j).1) : RetX Γ m_SD_ended [(.ref x), .int u, .int v, (.int sd), (.int (nI k0))] σ (x + 112) (x + 115) (some (.int ((K_ended T i j sd k0 xv si en).1))) (fun τ => τ.2 (x + 112) = some (.inr (.inr (9, [(.int ((K_ended T i j sd k0 xv si en).2.1)), (.ref (x + 112 + 1)), (.ref (x + 112 + 2))]))) ∧ τ.2 (x + 112 + 1) = some (.inl (0, 6, (K_ended T i j sd k0 xv si en).2.2.1)) ∧ τ.2 (x + 112 + 2) = some (.inl (0, 6, (K_ended T i j sd k0 xv si en).2.2.2))) := by
  obtain ⟨rfl, hi, rfl, hj, hgo⟩ := hg
  have hw1 := hw.2.1
  have hw2 := hw.2.2.1
  have hwS := hw.2.2.2.1 i hi
  have hwP := hw.2.2.2.2 j hj
  have hn16 := hwS.1
  have hn5 := hwS.2.1
  have h6 := hwP.1
  have hokL : ∀ k, k < (tP T j).1 → okL (tS T i) ((tP T j).2 k) := fun k hk => goT_okL hwS (hgo k hk).1
  have hwk30 := (wk_cl hwS).2
  unfold RetX
  generalize hQ : (fun (r : Option Value) (τ : ex_S) => r = some (.int ((K_ended T i j sd k0 xv si en).1)) ∧ frm σ τ (x + 112) (x + 115) ∧ (fun τ : ex_S => τ.2 (x + 112) = some (.inr (.inr (9, [(.int ((K_ended T i j sd k0 xv si en).2.1)), (.ref (x + 112 + 1)), (.ref (x + 112 + 2))]))) ∧ τ.2 (x + 112 + 1) = some (.inl (0, 6, (K_ended T i j sd k0 xv si en).2.2.1)) ∧ τ.2 (x + 112 + 2) = some (.inl (0, 6, (K_ended T i j sd k0 xv si en).2.2.2))) τ) = Q
  refine Ret.start pm_28 rfl ?_
  have fr : frm σ σ (x + 112) (x + 115) := frm.rf
  have hX := isX.frm hX0 fr (by omega)
  have hT := isT.frm hT0 fr (by omega)
  obtain ⟨t0, t1, ⟨fs, t2, t3⟩, ⟨fp, t4, t5⟩, t6, t7⟩ := id hT
  have hSi := t6 i (by omega)
  obtain ⟨h0, h1, h2, h3, h4, h5, h6', h7, h8, h9, h10⟩ := id hSi
  have hPj := t7 j (by omega)
  obtain ⟨p0, ⟨pf, p1, p2⟩, p3⟩ := id hPj
  refine Ev.aload_n rfl rfl ?_
  refine Ev.iload_n rfl rfl ?_
  refine Ev.iload_n rfl rfl ?_
  refine Ev.cV2 rfl rfl hX rfl rfl (by decide) ⟨(Nat.le_refl _), (Nat.le_refl _)⟩ (going_some hX hT hw ⟨rfl, hi, rfl, hj, hgo⟩) ?_
  refine Ev.astore rfl rfl rfl ?_
  refine Ev.aload_n rfl rfl ?_
  refine Ev.getf rfl rfl hX rfl ?_
  refine Ev.iload_n rfl rfl ?_
  refine Ev.cV1 rfl rfl t0 rfl rfl (by decide) ⟨(Nat.le_refl _), (Nat.le_refl _)⟩ (schoolAt_some hT hw1 hi) ?_
  refine Ev.astore rfl rfl rfl ?_
  refine Ev.aload rfl rfl ?_
  refine Ev.ifnull rfl ?_
  refine Ev.aload rfl rfl ?_
  refine Ev.ifnull rfl ?_
  refine Ev.aload rfl rfl ?_
  refine Ev.iload rfl rfl ?_
  refine Ev.cS2 rfl rfl rfl (by decide) ⟨(Nat.le_refl _), (Nat.le_refl _)⟩ (lessonOf_some hPj h6 hkk) ?_
  refine Ev.ifnonnull (tgt := 40) rfl (by decide) ?_
  refine Ev.aload_n rfl rfl ?_
  refine Ev.getf rfl rfl hX rfl ?_
  refine Ev.aload rfl rfl ?_
  refine Ev.aload rfl rfl ?_
  refine Ev.iload_n rfl rfl ?_
  refine Ev.aload rfl rfl ?_
  refine Ev.getf rfl rfl h0 rfl ?_
  refine Ev.bipush (v := 7) rfl (by decide) ?_
  refine Ev.ialdN (k := 7) rfl h10 (rfl : (7 : Int32) = nI 7) ⟨(by omega), by decide⟩ ?_
  refine Ev.xV4u rfl rfl htm rfl rfl (by decide) ⟨(Nat.le_refl _), (Nat.le_refl _)⟩ (run_ok htm hsi hen hSi hPj (by omega) (by omega) (by omega) (by omega) _ (wk_cl hwS).1 (by omega)) (fun τ1 f1 q1 => ?_)
  obtain ⟨htm, hsi, hen⟩ := q1
  have fr := fr.step f1 (by omega) (by omega)
  have hX := isX.frm hX0 fr (by omega)
  have hT := isT.frm hT0 fr (by omega)
  obtain ⟨t0, t1, ⟨fs, t2, t3⟩, ⟨fp, t4, t5⟩, t6, t7⟩ := id hT
  have hSi := t6 i (by omega)
  obtain ⟨h0, h1, h2, h3, h4, h5, h6', h7, h8, h9, h10⟩ := id hSi
  have hPj := t7 j (by omega)
  obtain ⟨p0, ⟨pf, p1, p2⟩, p3⟩ := id hPj
  refine Ev.aload_n rfl rfl ?_
  refine Ev.getf rfl rfl hX rfl ?_
  refine Ev.iload rfl rfl ?_
  refine Ev.cV1 rfl rfl htm rfl rfl (by decide) ⟨(Nat.le_refl _), (Nat.le_refl _)⟩ (endOf_ok htm hsi hen (by omega)) ?_
  refine Ev.iret (ty := .int) rfl rfl rfl (Nat.le_refl _) (Nat.le_refl _) ?_
  have hK : (K_ended T i j sd k0 xv si en) = (K_endOf ((K_run (tS T i) (tP T j) sd ((((tS T i).2.2 9) 7).toNatClampNeg) si en).2.2) k0, (K_run (tS T i) (tP T j) sd ((((tS T i).2.2 9) 7).toNatClampNeg) si en).1, (K_run (tS T i) (tP T j) sd ((((tS T i).2.2 9) 7).toNatClampNeg) si en).2.1, (K_run (tS T i) (tP T j) sd ((((tS T i).2.2 9) 7).toNatClampNeg) si en).2.2) := by rfl
  rw [← hQ]
  dsimp only
  rw [hK]
  exact ⟨rfl, fr, htm, hsi, hen⟩
def F_holds_59 (T : Tol) (i j : Nat) (sd : Int32) (w k0 : Nat) (xv : Int32) (si en : Nat → Int32) : Nat → (Int32 × Int32 × (Nat → Int32) × (Nat → Int32)) → (Int32 × Int32 × (Nat → Int32) × (Nat → Int32)) := fun k z => if (K_endOf ((K_run (tS T i) (tP T j) (sd + (nI k)) ((((tS T i).2.2 9) 7).toNatClampNeg) z.2.2.1 z.2.2.2).2.2) k0) = (-1 : Int32) then (z.1 + (1 : Int32), (K_run (tS T i) (tP T j) (sd + (nI k)) ((((tS T i).2.2 9) 7).toNatClampNeg) z.2.2.1 z.2.2.2).1, (K_run (tS T i) (tP T j) (sd + (nI k)) ((((tS T i).2.2 9) 7).toNatClampNeg) z.2.2.1 z.2.2.2).2.1, (K_run (tS T i) (tP T j) (sd + (nI k)) ((((tS T i).2.2 9) 7).toNatClampNeg) z.2.2.1 z.2.2.2).2.2) else (z.1, (K_run (tS T i) (tP T j) (sd + (nI k)) ((((tS T i).2.2 9) 7).toNatClampNeg) z.2.2.1 z.2.2.2).1, (K_run (tS T i) (tP T j) (sd + (nI k)) ((((tS T i).2.2 9) 7).toNatClampNeg) z.2.2.1 z.2.2.2).2.1, (K_run (tS T i) (tP T j) (sd + (nI k)) ((((tS T i).2.2 9) 7).toNatClampNeg) z.2.2.1 z.2.2.2).2.2)
def K_holds (T : Tol) (i j : Nat) (sd : Int32) (w k0 : Nat) (xv : Int32) (si en : Nat → Int32) : Int32 × Int32 × (Nat → Int32) × (Nat → Int32) := ((fo (F_holds_59 T i j sd w k0 xv si en) (w) 0 ((0 : Int32), xv, si, en)).1, (fo (F_holds_59 T i j sd w k0 xv si en) (w) 0 ((0 : Int32), xv, si, en)).2.1, (fo (F_holds_59 T i j sd w k0 xv si en) (w) 0 ((0 : Int32), xv, si, en)).2.2.1, (fo (F_holds_59 T i j sd w k0 xv si en) (w) 0 ((0 : Int32), xv, si, en)).2.2.2)
theorem holds_some (hX0 : isX σ x) (hT0 : isT σ (x + 1) T) (hw : wT T) {u v : Int32} {i j : Nat} (hg : gd T u v i j) {xv : Int32} {si en : Nat → Int32} (htm : σ.2 (x + 112) = some (.inr (.inr (9, [.int xv, .ref (x + 112 + 1), .ref (x + 112 + 2)])))) (hsi : σ.2 (x + 112 + 1) = some (.inl (0, 6, si))) (hen : σ.2 (x + 112 + 2) = some (.inl (0, 6, en))) (sd : Int32) {w k0 : Nat} (hv1 : 1 ≤ w) (hv8 : w ≤ 8) (hkk : k0 < (tP T j).1) : RetX Γ m_SD_holds [(.ref x), .int u, .int v, (.int sd), (.int (nI w)), (.int (nI k0))] σ (x + 112) (x + 115) (some (.int ((K_holds T i j sd w k0 xv si en).1))) (fun τ => τ.2 (x + 112) = some (.inr (.inr (9, [(.int ((K_holds T i j sd w k0 xv si en).2.1)), (.ref (x + 112 + 1)), (.ref (x + 112 + 2))]))) ∧ τ.2 (x + 112 + 1) = some (.inl (0, 6, (K_holds T i j sd w k0 xv si en).2.2.1)) ∧ τ.2 (x + 112 + 2) = some (.inl (0, 6, (K_holds T i j sd w k0 xv si en).2.2.2))) := by
  obtain ⟨rfl, hi, rfl, hj, hgo⟩ := hg
  have hw1 := hw.2.1
  have hw2 := hw.2.2.1
  have hwS := hw.2.2.2.1 i hi
  have hwP := hw.2.2.2.2 j hj
  have hn16 := hwS.1
  have hn5 := hwS.2.1
  have h6 := hwP.1
  have hokL : ∀ k, k < (tP T j).1 → okL (tS T i) ((tP T j).2 k) := fun k hk => goT_okL hwS (hgo k hk).1
  have hwk30 := (wk_cl hwS).2
  unfold RetX
  generalize hQ : (fun (r : Option Value) (τ : ex_S) => r = some (.int ((K_holds T i j sd w k0 xv si en).1)) ∧ frm σ τ (x + 112) (x + 115) ∧ (fun τ : ex_S => τ.2 (x + 112) = some (.inr (.inr (9, [(.int ((K_holds T i j sd w k0 xv si en).2.1)), (.ref (x + 112 + 1)), (.ref (x + 112 + 2))]))) ∧ τ.2 (x + 112 + 1) = some (.inl (0, 6, (K_holds T i j sd w k0 xv si en).2.2.1)) ∧ τ.2 (x + 112 + 2) = some (.inl (0, 6, (K_holds T i j sd w k0 xv si en).2.2.2))) τ) = Q
  refine Ret.start pm_39 rfl ?_
  have fr : frm σ σ (x + 112) (x + 115) := frm.rf
  have hX := isX.frm hX0 fr (by omega)
  have hT := isT.frm hT0 fr (by omega)
  obtain ⟨t0, t1, ⟨fs, t2, t3⟩, ⟨fp, t4, t5⟩, t6, t7⟩ := id hT
  have hSi := t6 i (by omega)
  obtain ⟨h0, h1, h2, h3, h4, h5, h6', h7, h8, h9, h10⟩ := id hSi
  have hPj := t7 j (by omega)
  obtain ⟨p0, ⟨pf, p1, p2⟩, p3⟩ := id hPj
  refine Ev.aload_n rfl rfl ?_
  refine Ev.iload_n rfl rfl ?_
  refine Ev.iload_n rfl rfl ?_
  refine Ev.cV2 rfl rfl hX rfl rfl (by decide) ⟨(Nat.le_refl _), (Nat.le_refl _)⟩ (going_some hX hT hw ⟨rfl, hi, rfl, hj, hgo⟩) ?_
  refine Ev.astore rfl rfl rfl ?_
  refine Ev.aload_n rfl rfl ?_
  refine Ev.getf rfl rfl hX rfl ?_
  refine Ev.iload_n rfl rfl ?_
  refine Ev.cV1 rfl rfl t0 rfl rfl (by decide) ⟨(Nat.le_refl _), (Nat.le_refl _)⟩ (schoolAt_some hT hw1 hi) ?_
  refine Ev.astore rfl rfl rfl ?_
  refine Ev.aload rfl rfl ?_
  refine Ev.ifnull rfl ?_
  refine Ev.aload rfl rfl ?_
  refine Ev.ifnull rfl ?_
  refine Ev.aload rfl rfl ?_
  refine Ev.iload rfl rfl ?_
  refine Ev.cS2 rfl rfl rfl (by decide) ⟨(Nat.le_refl _), (Nat.le_refl _)⟩ (lessonOf_some hPj h6 hkk) ?_
  refine Ev.ifnull rfl ?_
  refine Ev.iload rfl rfl ?_
  refine Ev.iconst (v := 1) rfl (by decide) ?_
  refine Ev.jlt (tgt := 51) rfl (by decide) (fun c41 => absurd c41 (nI_nlt (b := 1) hv1 (by omega))) (fun c41 => ?_)
  refine Ev.iload rfl rfl ?_
  refine Ev.bipush (v := 8) rfl (by decide) ?_
  refine Ev.jle (tgt := 53) rfl (by decide) (fun c48 => ?_) (fun c48 => absurd c48 (nI_nlt (a := 8) hv8 (by omega)))
  refine Ev.iconst (v := 0) rfl (by decide) ?_
  refine Ev.istore rfl rfl rfl ?_
  refine Ev.iconst (v := 0) rfl (by decide) ?_
  refine Ev.istore rfl rfl rfl ?_
  refine Ev.fg (L := [some (.ref x), none, none, some (.int sd), some (.int (nI w)), some (.int (nI k0)), some (.ref (x + 1 + 15 + 19 * j)), some (.ref (x + 1 + 4 + 19 * i)), some (.int (0 : Int32)), some (.int (nI 0))]) ?_ (gs rfl (gn (gn (gs rfl (gs rfl (gs rfl (gs rfl (gs rfl (gs rfl (gs (congrArg Value.int (rfl : (0 : Int32) = nI 0).symm) gz))))))))))
  refine lp (fun (k : Nat) (z : Int32 × Int32 × (Nat → Int32) × (Nat → Int32)) => ∀ τ' : ex_S, frm σ τ' (x + 112) (x + 115) → τ'.2 (x + 112) = some (.inr (.inr (9, [(.int z.2.1), (.ref (x + 112 + 1)), (.ref (x + 112 + 2))]))) → τ'.2 (x + 112 + 1) = some (.inl (0, 6, z.2.2.1)) → τ'.2 (x + 112 + 2) = some (.inl (0, 6, z.2.2.2)) → Ev Γ 0 0 m_SD_holds 0 0 59 [some (.ref x), none, none, some (.int sd), some (.int (nI w)), some (.int (nI k0)), some (.ref (x + 1 + 15 + 19 * j)), some (.ref (x + 1 + 4 + 19 * i)), some (.int z.1), some (.int (nI k))] [] τ' Q) (F_holds_59 T i j sd w k0 xv si en) (w) (fun k z hk hx => ?_) (w) 0 ((0 : Int32), xv, si, en) (by omega) ?_ σ fr htm hsi hen
  · skip
    intro τ' fr htm hsi hen
    have hX := isX.frm hX0 fr (by omega)
    have hT := isT.frm hT0 fr (by omega)
    obtain ⟨t0, t1, ⟨fs, t2, t3⟩, ⟨fp, t4, t5⟩, t6, t7⟩ := id hT
    have hSi := t6 i (by omega)
    obtain ⟨h0, h1, h2, h3, h4, h5, h6', h7, h8, h9, h10⟩ := id hSi
    have hPj := t7 j (by omega)
    obtain ⟨p0, ⟨pf, p1, p2⟩, p3⟩ := id hPj
    refine Ev.iload rfl rfl ?_
    refine Ev.iload rfl rfl ?_
    refine Ev.jge (tgt := 111) rfl (by decide) (fun c63 => absurd (nI_lt hk (by omega)) c63) (fun c63 => ?_)
    refine Ev.aload_n rfl rfl ?_
    refine Ev.getf rfl rfl hX rfl ?_
    refine Ev.aload rfl rfl ?_
    refine Ev.aload rfl rfl ?_
    refine Ev.iload_n rfl rfl ?_
    refine Ev.iload rfl rfl ?_
    refine Ev.iadd rfl ?_
    refine Ev.aload rfl rfl ?_
    refine Ev.getf rfl rfl h0 rfl ?_
    refine Ev.bipush (v := 7) rfl (by decide) ?_
    refine Ev.ialdN (k := 7) rfl h10 (rfl : (7 : Int32) = nI 7) ⟨(by omega), by decide⟩ ?_
    refine Ev.xV4u rfl rfl htm rfl rfl (by decide) ⟨(Nat.le_refl _), (Nat.le_refl _)⟩ (run_ok htm hsi hen hSi hPj (by omega) (by omega) (by omega) (by omega) _ (wk_cl hwS).1 (by omega)) (fun τ1 f1 q1 => ?_)
    obtain ⟨htm, hsi, hen⟩ := q1
    have fr := fr.step f1 (by omega) (by omega)
    have hX := isX.frm hX0 fr (by omega)
    have hT := isT.frm hT0 fr (by omega)
    obtain ⟨t0, t1, ⟨fs, t2, t3⟩, ⟨fp, t4, t5⟩, t6, t7⟩ := id hT
    have hSi := t6 i (by omega)
    obtain ⟨h0, h1, h2, h3, h4, h5, h6', h7, h8, h9, h10⟩ := id hSi
    have hPj := t7 j (by omega)
    obtain ⟨p0, ⟨pf, p1, p2⟩, p3⟩ := id hPj
    refine Ev.aload_n rfl rfl ?_
    refine Ev.getf rfl rfl hX rfl ?_
    refine Ev.iload rfl rfl ?_
    refine Ev.cV1 rfl rfl htm rfl rfl (by decide) ⟨(Nat.le_refl _), (Nat.le_refl _)⟩ (endOf_ok htm hsi hen (by omega)) ?_
    refine Ev.iconst (v := (-1)) rfl (by decide) ?_
    refine Ev.jne (tgt := 105) rfl (by decide) (fun c99 => ?_) (fun c99 => ?_)
    · skip
      refine Ev.iinc (d := 1) rfl rfl rfl (by decide) rfl ?_
      refine Ev.goto (tgt := 59) rfl (by decide) ?_
      have hF : (F_holds_59 T i j sd w k0 xv si en) k z = (z.1, (K_run (tS T i) (tP T j) (sd + (nI k)) ((((tS T i).2.2 9) 7).toNatClampNeg) z.2.2.1 z.2.2.2).1, (K_run (tS T i) (tP T j) (sd + (nI k)) ((((tS T i).2.2 9) 7).toNatClampNeg) z.2.2.1 z.2.2.2).2.1, (K_run (tS T i) (tP T j) (sd + (nI k)) ((((tS T i).2.2 9) 7).toNatClampNeg) z.2.2.1 z.2.2.2).2.2) := by
        unfold F_holds_59
        rw [if_neg c99]
      rw [hF] at hx
      exact (hx τ1 fr htm hsi hen).fg (gs rfl (gn (gn (gs rfl (gs rfl (gs rfl (gs rfl (gs rfl (gs rfl (gs (congrArg Value.int (show nI (k + 1) = (nI k) + (1 : Int32) from (nq_to (a := k + 1) (nq_add (a := k) (b := 1) rfl (rfl : (1 : Int32) = nI 1)) (by omega)).symm)) gz))))))))))
    · skip
      refine Ev.iinc (d := 1) rfl rfl rfl (by decide) rfl ?_
      refine Ev.iinc (d := 1) rfl rfl rfl (by decide) rfl ?_
      refine Ev.goto (tgt := 59) rfl (by decide) ?_
      have hF : (F_holds_59 T i j sd w k0 xv si en) k z = (z.1 + (1 : Int32), (K_run (tS T i) (tP T j) (sd + (nI k)) ((((tS T i).2.2 9) 7).toNatClampNeg) z.2.2.1 z.2.2.2).1, (K_run (tS T i) (tP T j) (sd + (nI k)) ((((tS T i).2.2 9) 7).toNatClampNeg) z.2.2.1 z.2.2.2).2.1, (K_run (tS T i) (tP T j) (sd + (nI k)) ((((tS T i).2.2 9) 7).toNatClampNeg) z.2.2.1 z.2.2.2).2.2) := by
        unfold F_holds_59
        rw [if_pos c99]
      rw [hF] at hx
      exact (hx τ1 fr htm hsi hen).fg (gs rfl (gn (gn (gs rfl (gs rfl (gs rfl (gs rfl (gs rfl (gs rfl (gs (congrArg Value.int (show nI (k + 1) = (nI k) + (1 : Int32) from (nq_to (a := k + 1) (nq_add (a := k) (b := 1) rfl (rfl : (1 : Int32) = nI 1)) (by omega)).symm)) gz))))))))))
  · skip
    intro τ' fr htm hsi hen
    have hX := isX.frm hX0 fr (by omega)
    have hT := isT.frm hT0 fr (by omega)
    obtain ⟨t0, t1, ⟨fs, t2, t3⟩, ⟨fp, t4, t5⟩, t6, t7⟩ := id hT
    have hSi := t6 i (by omega)
    obtain ⟨h0, h1, h2, h3, h4, h5, h6', h7, h8, h9, h10⟩ := id hSi
    have hPj := t7 j (by omega)
    obtain ⟨p0, ⟨pf, p1, p2⟩, p3⟩ := id hPj
    refine Ev.iload rfl rfl ?_
    refine Ev.iload rfl rfl ?_
    refine Ev.jge (tgt := 111) rfl (by decide) (fun c63 => ?_) (fun c63 => absurd c63 (nI_nlt (Nat.le_refl _) (by omega)))
    refine Ev.iload rfl rfl ?_
    refine Ev.iret (ty := .int) rfl rfl rfl (Nat.le_refl _) (Nat.le_refl _) ?_
    have hK : (K_holds T i j sd w k0 xv si en) = ((fo (F_holds_59 T i j sd w k0 xv si en) (w) 0 ((0 : Int32), xv, si, en)).1, (fo (F_holds_59 T i j sd w k0 xv si en) (w) 0 ((0 : Int32), xv, si, en)).2.1, (fo (F_holds_59 T i j sd w k0 xv si en) (w) 0 ((0 : Int32), xv, si, en)).2.2.1, (fo (F_holds_59 T i j sd w k0 xv si en) (w) 0 ((0 : Int32), xv, si, en)).2.2.2) := by rfl
    rw [← hQ]
    dsimp only
    rw [hK]
    exact ⟨rfl, fr, htm, hsi, hen⟩
theorem ix_tab2 {s : Nat} {step own : Int32} {j : Nat} (h : step - own + 3 = nI j) : nI s + 110 + 3 + step - own = nI (s + 110 + j) := by
  rw [← nI_add, ← nI_add, ← h]
  have : (110 : Int32) = nI 110 := rfl
  rw [this]
  grind
variable {s c : Nat} {C : Les}
theorem m_stay_ok (hM : isM σ y g A) (hS : mS A s S) (hs : s + 120 ≤ 4500) (step own : Int32) (h1 : -1000 < (step - own).toInt) (h2 : (step - own).toInt < 1000) : RetV Γ m_M_stayOf [.ref y, .int (nI s), .int step, .int own] σ (.int (K_stay S step own)) := by
  obtain ⟨m0, m1⟩ := id hM
  unfold RetV
  generalize hQ : (fun (r : Option Value) (σ' : ex_S) => r = some (Value.int (K_stay S step own)) ∧ σ' = σ) = Q
  refine Ret.start pm_253 rfl ?_
  refine Ev.iload_n rfl rfl ?_
  refine Ev.iload_n rfl rfl ?_
  refine Ev.isub rfl ?_
  refine Ev.cS1 rfl rfl rfl (by decide) ⟨(Nat.le_refl _), (Nat.le_refl _)⟩ (m_size_ok _) ?_
  refine Ev.iconst (v := 3) rfl (by decide) ?_
  refine Ev.icmp_le (tgt := 14) rfl (by decide) (fun c7 => ?_) (fun c7 => ?_)
  · skip
    obtain ⟨a1, a2⟩ := (i_3 h1 h2).mp c7
    obtain ⟨j, hj, ej⟩ := vp_in_of (in7 a1 a2) (by decide)
    refine Ev.aload_n rfl rfl ?_
    refine Ev.getf rfl rfl (by assumption) rfl ?_
    refine Ev.iload_n rfl rfl ?_
    refine Ev.bipush (v := 110) rfl (by decide) ?_
    refine Ev.iadd rfl ?_
    refine Ev.iconst (v := 3) rfl (by decide) ?_
    refine Ev.iadd rfl ?_
    refine Ev.iload_n rfl rfl ?_
    refine Ev.iadd rfl ?_
    refine Ev.iload_n rfl rfl ?_
    refine Ev.isub rfl ?_
    refine Ev.ialdN (k := s + 110 + j) rfl (by assumption) (ix_tab2 ej) ⟨(by omega), by decide⟩ ?_
    refine Ev.iret (ty := .int) rfl rfl rfl (Nat.le_refl _) (Nat.le_refl _) ?_
    rw [← hQ]
    first
      | (refine ⟨?_, rfl⟩
         rw [(hS.2.2.2.2.2 j hj).2]
         simp only [K_stay, if_neg a1, if_neg a2, ej, nI_clamp (show j < 2 ^ 31 by omega)])
      | (refine ⟨?_, rfl⟩
         have := mt (i_3 h1 h2).mpr c7
         unfold K_stay
         by_cases q : step - own < -3
         · rw [if_pos q]
         · rw [if_neg q, if_pos (by by_cases z : 3 < step - own; exact z; exact absurd ⟨q, z⟩ this)])
  · skip
    refine Ev.iconst (v := 0) rfl (by decide) ?_
    refine Ev.goto (tgt := 29) rfl (by decide) ?_
    refine Ev.iret (ty := .int) rfl rfl rfl (Nat.le_refl _) (Nat.le_refl _) ?_
    rw [← hQ]
    first
      | (refine ⟨?_, rfl⟩
         rw [(hS.2.2.2.2.2 j hj).2]
         simp only [K_stay, if_neg a1, if_neg a2, ej, nI_clamp (show j < 2 ^ 31 by omega)])
      | (refine ⟨?_, rfl⟩
         have := mt (i_3 h1 h2).mpr c7
         unfold K_stay
         by_cases q : step - own < -3
         · rw [if_pos q]
         · rw [if_neg q, if_pos (by by_cases z : 3 < step - own; exact z; exact absurd ⟨q, z⟩ this)])
def K_m_drawn (g : Nat → Int32) : Int32 × (Nat → Int32) := ((((((g 27) * (1103515245 : Int32)) + (12345 : Int32)).toUInt32 >>> ((16 : Int32).toUInt32 &&& Int32.toUInt32 31)).toInt32) - (((((g 27) * (1103515245 : Int32)) + (12345 : Int32)).toUInt32 >>> ((16 : Int32).toUInt32 &&& Int32.toUInt32 31)).toInt32) / (100 : Int32) * (100 : Int32), (upd g 27 (((g 27) * (1103515245 : Int32)) + (12345 : Int32))))
theorem m_drawn_ok (m0 : σ.2 y = some (.inr (.inr (10, mo y g)))) : RetX Γ m_M_drawn [(.ref y), (.int (100 : Int32))] σ y (y + 1) (some (.int ((K_m_drawn g).1))) (fun τ => τ.2 y = some (.inr (.inr (10, mo y ((K_m_drawn g).2))))) := by
  unfold RetX
  generalize hQ : (fun (r : Option Value) (τ : ex_S) => r = some (.int ((K_m_drawn g).1)) ∧ frm σ τ y (y + 1) ∧ (fun τ : ex_S => τ.2 y = some (.inr (.inr (10, mo y ((K_m_drawn g).2))))) τ) = Q
  refine Ret.start pm_252 rfl ?_
  have fr : frm σ σ y (y + 1) := frm.rf
  refine Ev.aload_n rfl rfl ?_
  refine Ev.aload_n rfl rfl ?_
  refine Ev.getf rfl rfl m0 rfl ?_
  refine Ev.ldcw (v := (1103515245)) rfl rfl ?_
  refine Ev.imul rfl ?_
  refine Ev.sipush (v := 12345) rfl (by decide) ?_
  refine Ev.iadd rfl ?_
  refine Ev.putE rfl rfl m0 rfl rfl rfl (Nat.le_of_ble_eq_true rfl) (fun τ1 f1 q1 => ?_)
  have m0 : τ1.2 y = some (.inr (.inr (10, mo y (upd g 27 (((g 27) * (1103515245 : Int32)) + (12345 : Int32)))))) := q1
  have fr := fr.step f1 (by omega) (by omega)
  refine Ev.aload_n rfl rfl ?_
  refine Ev.getf rfl rfl m0 rfl ?_
  rw [show (upd g 27 (((g 27) * (1103515245 : Int32)) + (12345 : Int32))) 27 = (((g 27) * (1103515245 : Int32)) + (12345 : Int32)) from by
    simp only [pk_us]]
  refine Ev.bipush (v := 16) rfl (by decide) ?_
  refine Ev.iushr rfl ?_
  refine Ev.iload_n rfl rfl ?_
  refine Ev.irem rfl (by decide) ?_
  refine Ev.iret (ty := .int) rfl rfl rfl (Nat.le_refl _) (Nat.le_refl _) ?_
  have hK : (K_m_drawn g) = ((((((g 27) * (1103515245 : Int32)) + (12345 : Int32)).toUInt32 >>> ((16 : Int32).toUInt32 &&& Int32.toUInt32 31)).toInt32) - (((((g 27) * (1103515245 : Int32)) + (12345 : Int32)).toUInt32 >>> ((16 : Int32).toUInt32 &&& Int32.toUInt32 31)).toInt32) / (100 : Int32) * (100 : Int32), (upd g 27 (((g 27) * (1103515245 : Int32)) + (12345 : Int32)))) := by rfl
  rw [← hQ]
  dsimp only
  rw [hK]
  exact ⟨rfl, fr, m0⟩
def F_m_passes_8 (S : Sch) (P : Pln) (sd : Int32) (w : Nat) (g : Nat → Int32) (v_still : Nat → Int32) (v_endedAt : Nat → Int32) : Nat → ((Nat → Int32) × (Nat → Int32)) → ((Nat → Int32) × (Nat → Int32)) := fun k z => ((upd z.1 k (P.2 k 5)), (upd z.2 k (-1 : Int32)))
def F_m_passes_85 (S : Sch) (P : Pln) (sd : Int32) (w : Nat) (g : Nat → Int32) (v_still : Nat → Int32) (v_endedAt : Nat → Int32) (k : Nat) (z : (Nat → Int32) × (Nat → Int32) × (Nat → Int32)) (k' : Nat) (z' : (Nat → Int32) × (Nat → Int32)) : Nat → ((Nat → Int32) × (Nat → Int32)) → ((Nat → Int32) × (Nat → Int32)) := fun k'' z'' => if (((z''.2 k') >>> ((nI k'') &&& 31)) &&& (1 : Int32)) = (0 : Int32) then (z''.1, z''.2) else (if ((K_m_drawn z''.1).1) < (K_stay S (P.2 k' 3) (S.2.2 0 k'')) then ((K_m_drawn z''.1).2, z''.2) else ((K_m_drawn z''.1).2, (upd z''.2 k' ((z''.2 k') &&& (((1 : Int32) <<< ((nI k'') &&& 31)) ^^^ (-1 : Int32))))))
def F_m_passes_59 (S : Sch) (P : Pln) (sd : Int32) (w : Nat) (g : Nat → Int32) (v_still : Nat → Int32) (v_endedAt : Nat → Int32) (k : Nat) (z : (Nat → Int32) × (Nat → Int32) × (Nat → Int32)) : Nat → ((Nat → Int32) × (Nat → Int32)) → ((Nat → Int32) × (Nat → Int32)) := fun k' z' => if (z.2.2 k') < (0 : Int32) then ((fo (F_m_passes_85 S P sd w g v_still v_endedAt k z k' z') (S.1) 0 (z'.1, z'.2)).1, (fo (F_m_passes_85 S P sd w g v_still v_endedAt k z k' z') (S.1) 0 (z'.1, z'.2)).2) else (z'.1, z'.2)
def F_m_passes_180 (S : Sch) (P : Pln) (sd : Int32) (w : Nat) (g : Nat → Int32) (v_still : Nat → Int32) (v_endedAt : Nat → Int32) (k : Nat) (z : (Nat → Int32) × (Nat → Int32) × (Nat → Int32)) : Nat → ((Nat → Int32) × (Nat → Int32)) → ((Nat → Int32) × (Nat → Int32)) := fun k' z' => if (z'.2 k') < (0 : Int32) then (if (K_many (z'.1 k')) < (S.2.2 9 2) then ((upd z'.1 k' (0 : Int32)), (upd z'.2 k' (nI k))) else (z'.1, z'.2)) else (z'.1, z'.2)
def F_m_passes_49 (S : Sch) (P : Pln) (sd : Int32) (w : Nat) (g : Nat → Int32) (v_still : Nat → Int32) (v_endedAt : Nat → Int32) : Nat → ((Nat → Int32) × (Nat → Int32) × (Nat → Int32)) → ((Nat → Int32) × (Nat → Int32) × (Nat → Int32)) := fun k z => ((fo (F_m_passes_59 S P sd w g v_still v_endedAt k z) (P.1) 0 (z.1, z.2.1)).1, (fo (F_m_passes_180 S P sd w g v_still v_endedAt k z) (P.1) 0 ((fo (F_m_passes_59 S P sd w g v_still v_endedAt k z) (P.1) 0 (z.1, z.2.1)).2, z.2.2)).1, (fo (F_m_passes_180 S P sd w g v_still v_endedAt k z) (P.1) 0 ((fo (F_m_passes_59 S P sd w g v_still v_endedAt k z) (P.1) 0 (z.1, z.2.1)).2, z.2.2)).2)
def K_m_passes (S : Sch) (P : Pln) (sd : Int32) (w : Nat) (g : Nat → Int32) (v_still : Nat → Int32) (v_endedAt : Nat → Int32) : (Nat → Int32) × (Nat → Int32) × (Nat → Int32) := ((fo (F_m_passes_49 S P sd w g v_still v_endedAt) ((w + 1) - 1) 1 ((upd g 27 sd), (fo (F_m_passes_8 S P sd w g v_still v_endedAt) (P.1) 0 (v_still, v_endedAt)).1, (fo (F_m_passes_8 S P sd w g v_still v_endedAt) (P.1) 0 (v_still, v_endedAt)).2)).1, (fo (F_m_passes_49 S P sd w g v_still v_endedAt) ((w + 1) - 1) 1 ((upd g 27 sd), (fo (F_m_passes_8 S P sd w g v_still v_endedAt) (P.1) 0 (v_still, v_endedAt)).1, (fo (F_m_passes_8 S P sd w g v_still v_endedAt) (P.1) 0 (v_still, v_endedAt)).2)).2.1, (fo (F_m_passes_49 S P sd w g v_still v_endedAt) ((w + 1) - 1) 1 ((upd g 27 sd), (fo (F_m_passes_8 S P sd w g v_still v_endedAt) (P.1) 0 (v_still, v_endedAt)).1, (fo (F_m_passes_8 S P sd w g v_still v_endedAt) (P.1) 0 (v_still, v_endedAt)).2)).2.2)
theorem m_passes_ok (hM : isM σ y g A) {s : Nat} (hS : mS A s S) (hs : s + 120 ≤ 4500) (hwS : wS S) (hP : mP A (970 + 40 * p) P) (hp : p < 3) (hwP : wP P) (hgo : goP S P) {v_still : Nat → Int32} (m_still : σ.2 (y + 15) = some (.inl (0, 6, v_still))) {v_endedAt : Nat → Int32} (m_endedAt : σ.2 (y + 16) = some (.inl (0, 6, v_endedAt))) (sd : Int32) {wv : Int32} {w : Nat} (hwv : wv = nI w) (hw30 : w ≤ 30) : RetX Γ m_M_passes [(.ref y), (.int (nI s)), (.int (nI p)), (.int sd), .int wv] σ y (y + 17) none (fun τ => τ.2 y = some (.inr (.inr (10, mo y ((K_m_passes S P sd w g v_still v_endedAt).1)))) ∧ τ.2 (y + 15) = some (.inl (0, 6, (K_m_passes S P sd w g v_still v_endedAt).2.1)) ∧ τ.2 (y + 16) = some (.inl (0, 6, (K_m_passes S P sd w g v_still v_endedAt).2.2)) ∧ (∀ q, q ≠ y → q ≠ y + 15 → q ≠ y + 16 → τ.2 q = σ.2 q)) := by
  obtain ⟨m0, m1⟩ := id hM
  have hn16 := hwS.1
  have hn5 := hwS.2.1
  have h6 := hwP.1
  subst hwv
  unfold RetX
  generalize hQ : (fun (r : Option Value) (τ : ex_S) => r = none ∧ frm σ τ y (y + 17) ∧ (fun τ : ex_S => τ.2 y = some (.inr (.inr (10, mo y ((K_m_passes S P sd w g v_still v_endedAt).1)))) ∧ τ.2 (y + 15) = some (.inl (0, 6, (K_m_passes S P sd w g v_still v_endedAt).2.1)) ∧ τ.2 (y + 16) = some (.inl (0, 6, (K_m_passes S P sd w g v_still v_endedAt).2.2)) ∧ (∀ q, q ≠ y → q ≠ y + 15 → q ≠ y + 16 → τ.2 q = σ.2 q)) τ) = Q
  refine Ret.start pm_254 rfl ?_
  have fr : frm σ σ y (y + 17) := frm.rf
  have kp : (∀ q, q ≠ y → q ≠ y + 15 → q ≠ y + 16 → σ.2 q = σ.2 q) := fun _ _ _ _ => rfl
  have hM : isM _ y g A := ⟨m0, m1⟩
  refine Ev.aload_n rfl rfl ?_
  refine Ev.iload_n rfl rfl ?_
  refine Ev.putE rfl rfl m0 rfl rfl rfl (Nat.le_of_ble_eq_true rfl) (fun τ1 f1 q1 => ?_)
  have m0 : τ1.2 y = some (.inr (.inr (10, mo y (upd g 27 sd)))) := q1
  have m1 := frm.cell f1 m1 (by omega)
  have m_still := frm.cell f1 m_still (by omega)
  have m_endedAt := frm.cell f1 m_endedAt (by omega)
  have kp : (∀ q, q ≠ y → q ≠ y + 15 → q ≠ y + 16 → τ1.2 q = σ.2 q) := fun q n0 n1 n2 => (f1.2 q (by omega)).trans (kp q n0 n1 n2)
  have fr := fr.step f1 (by omega) (by omega)
  have hM : isM _ y (upd g 27 sd) A := ⟨m0, m1⟩
  refine Ev.iconst (v := 0) rfl (by decide) ?_
  refine Ev.istore rfl rfl rfl ?_
  refine Ev.fg (L := [some (.ref y), some (.int (nI s)), some (.int (nI p)), none, some (.int (nI w)), some (.int (nI 0)), none, none]) ?_ (gs rfl (gs rfl (gs rfl (gn (gs rfl (gs (congrArg Value.int (rfl : (0 : Int32) = nI 0).symm) (gn (gn gz))))))))
  refine lp (fun (k : Nat) (z : (Nat → Int32) × (Nat → Int32)) => ∀ τ' : ex_S, frm σ τ' y (y + 17) → τ'.2 (y + 1) = some (.inl (0, 4500, A)) → τ'.2 y = some (.inr (.inr (10, mo y (upd g 27 sd)))) → τ'.2 (y + 15) = some (.inl (0, 6, z.1)) → τ'.2 (y + 16) = some (.inl (0, 6, z.2)) → (∀ q, q ≠ y → q ≠ y + 15 → q ≠ y + 16 → τ'.2 q = σ.2 q) → Ev Γ 0 0 m_M_passes 0 0 8 [some (.ref y), some (.int (nI s)), some (.int (nI p)), none, some (.int (nI w)), some (.int (nI k)), none, none] [] τ' Q) (F_m_passes_8 S P sd w g v_still v_endedAt) (P.1) (fun k z hk hx => ?_) (P.1) 0 (v_still, v_endedAt) (by omega) ?_ τ1 fr m1 m0 m_still m_endedAt kp
  · skip
    intro τ' fr m1 m0 m_still m_endedAt kp
    have hM : isM _ y (upd g 27 sd) A := ⟨m0, m1⟩
    refine Ev.iload rfl rfl ?_
    refine Ev.aload_n rfl rfl ?_
    refine Ev.iload_n rfl rfl ?_
    refine Ev.cV1 rfl rfl m0 rfl rfl (by decide) ⟨(Nat.le_refl _), (Nat.le_refl _)⟩ (m_classes_ok hM hP hp h6) ?_
    refine Ev.jge (tgt := 46) rfl (by decide) (fun c15 => absurd (nI_lt hk (by omega)) c15) (fun c15 => ?_)
    refine Ev.aload_n rfl rfl ?_
    refine Ev.getf rfl rfl m0 rfl ?_
    refine Ev.iload rfl rfl ?_
    refine Ev.aload_n rfl rfl ?_
    refine Ev.iload_n rfl rfl ?_
    refine Ev.iload rfl rfl ?_
    refine Ev.cV2 rfl rfl m0 rfl rfl (by decide) ⟨(Nat.le_refl _), (Nat.le_refl _)⟩ (m_sitsIn_ok hM hP hp h6 k (by omega)) ?_
    refine Ev.iastE (k := k) rfl m_still rfl ⟨(by omega), by decide⟩ (fun τ2 f1 m_still => ?_)
    have m1 := frm.cell f1 m1 (by omega)
    have m0 := frm.cell f1 m0 (by omega)
    have m_endedAt := frm.cell f1 m_endedAt (by omega)
    have kp : (∀ q, q ≠ y → q ≠ y + 15 → q ≠ y + 16 → τ2.2 q = σ.2 q) := fun q n0 n1 n2 => (f1.2 q (by omega)).trans (kp q n0 n1 n2)
    have fr := fr.step f1 (by omega) (by omega)
    have hM : isM _ y (upd g 27 sd) A := ⟨m0, m1⟩
    refine Ev.aload_n rfl rfl ?_
    refine Ev.getf rfl rfl m0 rfl ?_
    refine Ev.iload rfl rfl ?_
    refine Ev.iconst (v := (-1)) rfl (by decide) ?_
    refine Ev.iastE (k := k) rfl m_endedAt rfl ⟨(by omega), by decide⟩ (fun τ3 f1 m_endedAt => ?_)
    have m1 := frm.cell f1 m1 (by omega)
    have m0 := frm.cell f1 m0 (by omega)
    have m_still := frm.cell f1 m_still (by omega)
    have kp : (∀ q, q ≠ y → q ≠ y + 15 → q ≠ y + 16 → τ3.2 q = σ.2 q) := fun q n0 n1 n2 => (f1.2 q (by omega)).trans (kp q n0 n1 n2)
    have fr := fr.step f1 (by omega) (by omega)
    have hM : isM _ y (upd g 27 sd) A := ⟨m0, m1⟩
    refine Ev.iinc (d := 1) rfl rfl rfl (by decide) rfl ?_
    refine Ev.goto (tgt := 8) rfl (by decide) ?_
    have hF : (F_m_passes_8 S P sd w g v_still v_endedAt) k z = ((upd z.1 k (P.2 k 5)), (upd z.2 k (-1 : Int32))) := by rfl
    rw [hF] at hx
    exact (hx τ3 fr m1 m0 m_still m_endedAt kp).fg (gs rfl (gs rfl (gs rfl (gn (gs rfl (gs (congrArg Value.int (show nI (k + 1) = (nI k) + (1 : Int32) from (nq_to (a := k + 1) (nq_add (a := k) (b := 1) rfl (rfl : (1 : Int32) = nI 1)) (by omega)).symm)) (gn (gn gz))))))))
  · skip
    intro τ' fr m1 m0 m_still m_endedAt kp
    have hM : isM _ y (upd g 27 sd) A := ⟨m0, m1⟩
    refine Ev.iload rfl rfl ?_
    refine Ev.aload_n rfl rfl ?_
    refine Ev.iload_n rfl rfl ?_
    refine Ev.cV1 rfl rfl m0 rfl rfl (by decide) ⟨(Nat.le_refl _), (Nat.le_refl _)⟩ (m_classes_ok hM hP hp h6) ?_
    refine Ev.jge (tgt := 46) rfl (by decide) (fun c15 => ?_) (fun c15 => absurd c15 (nI_nlt (Nat.le_refl _) (by omega)))
    refine Ev.iconst (v := 1) rfl (by decide) ?_
    refine Ev.istore rfl rfl rfl ?_
    refine Ev.fg (L := [some (.ref y), some (.int (nI s)), some (.int (nI p)), none, some (.int (nI w)), some (.int (nI 1)), none, none]) ?_ (gs rfl (gs rfl (gs rfl (gn (gs rfl (gs (congrArg Value.int (rfl : (1 : Int32) = nI 1).symm) (gn (gn gz))))))))
    refine lp (fun (k : Nat) (z : (Nat → Int32) × (Nat → Int32) × (Nat → Int32)) => ∀ τ' : ex_S, frm σ τ' y (y + 17) → τ'.2 (y + 1) = some (.inl (0, 4500, A)) → τ'.2 y = some (.inr (.inr (10, mo y z.1))) → τ'.2 (y + 15) = some (.inl (0, 6, z.2.1)) → τ'.2 (y + 16) = some (.inl (0, 6, z.2.2)) → (∀ q, q ≠ y → q ≠ y + 15 → q ≠ y + 16 → τ'.2 q = σ.2 q) → Ev Γ 0 0 m_M_passes 0 0 49 [some (.ref y), some (.int (nI s)), some (.int (nI p)), none, some (.int (nI w)), some (.int (nI k)), none, none] [] τ' Q) (F_m_passes_49 S P sd w g v_still v_endedAt) (w + 1) (fun k z hk hx => ?_) ((w + 1) - 1) 1 ((upd g 27 sd), (fo (F_m_passes_8 S P sd w g v_still v_endedAt) (P.1) 0 (v_still, v_endedAt)).1, (fo (F_m_passes_8 S P sd w g v_still v_endedAt) (P.1) 0 (v_still, v_endedAt)).2) (by omega) ?_ τ' fr m1 m0 m_still m_endedAt kp
    · skip
      intro τ' fr m1 m0 m_still m_endedAt kp
      have hM : isM _ y z.1 A := ⟨m0, m1⟩
      refine Ev.iload rfl rfl ?_
      refine Ev.iload rfl rfl ?_
      refine Ev.jgt (tgt := 253) rfl (by decide) (fun c53 => absurd c53 (nI_nlt (by omega) (by omega))) (fun c53 => ?_)
      refine Ev.iconst (v := 0) rfl (by decide) ?_
      refine Ev.istore rfl rfl rfl ?_
      refine Ev.fg (L := [some (.ref y), some (.int (nI s)), some (.int (nI p)), none, some (.int (nI w)), some (.int (nI k)), some (.int (nI 0)), none]) ?_ (gs rfl (gs rfl (gs rfl (gn (gs rfl (gs rfl (gs (congrArg Value.int (rfl : (0 : Int32) = nI 0).symm) (gn gz))))))))
      refine lp (fun (k' : Nat) (z' : (Nat → Int32) × (Nat → Int32)) => ∀ τ'' : ex_S, frm σ τ'' y (y + 17) → τ''.2 (y + 1) = some (.inl (0, 4500, A)) → τ''.2 y = some (.inr (.inr (10, mo y z'.1))) → τ''.2 (y + 15) = some (.inl (0, 6, z'.2)) → τ''.2 (y + 16) = some (.inl (0, 6, z.2.2)) → (∀ q, q ≠ y → q ≠ y + 15 → q ≠ y + 16 → τ''.2 q = σ.2 q) → Ev Γ 0 0 m_M_passes 0 0 59 [some (.ref y), some (.int (nI s)), some (.int (nI p)), none, some (.int (nI w)), some (.int (nI k)), some (.int (nI k')), none] [] τ'' Q) (F_m_passes_59 S P sd w g v_still v_endedAt k z) (P.1) (fun k' z' hk' hx' => ?_) (P.1) 0 (z.1, z.2.1) (by omega) ?_ τ' fr m1 m0 m_still m_endedAt kp
      · skip
        intro τ'' fr m1 m0 m_still m_endedAt kp
        have hM : isM _ y z'.1 A := ⟨m0, m1⟩
        refine Ev.iload rfl rfl ?_
        refine Ev.aload_n rfl rfl ?_
        refine Ev.iload_n rfl rfl ?_
        refine Ev.cV1 rfl rfl m0 rfl rfl (by decide) ⟨(Nat.le_refl _), (Nat.le_refl _)⟩ (m_classes_ok hM hP hp h6) ?_
        refine Ev.jge (tgt := 177) rfl (by decide) (fun c66 => absurd (nI_lt hk' (by omega)) c66) (fun c66 => ?_)
        refine Ev.aload_n rfl rfl ?_
        refine Ev.getf rfl rfl m0 rfl ?_
        refine Ev.iload rfl rfl ?_
        refine Ev.ialdN (k := k') rfl m_endedAt rfl ⟨(by omega), by decide⟩ ?_
        refine Ev.zlt (tgt := 82) rfl (by decide) (fun c76 => ?_) (fun c76 => ?_)
        · skip
          refine Ev.iconst (v := 0) rfl (by decide) ?_
          refine Ev.istore rfl rfl rfl ?_
          refine Ev.fg (L := [some (.ref y), some (.int (nI s)), some (.int (nI p)), none, some (.int (nI w)), some (.int (nI k)), some (.int (nI k')), some (.int (nI 0))]) ?_ (gs rfl (gs rfl (gs rfl (gn (gs rfl (gs rfl (gs rfl (gs (congrArg Value.int (rfl : (0 : Int32) = nI 0).symm) gz))))))))
          refine lp (fun (k'' : Nat) (z'' : (Nat → Int32) × (Nat → Int32)) => ∀ τ''' : ex_S, frm σ τ''' y (y + 17) → τ'''.2 (y + 1) = some (.inl (0, 4500, A)) → τ'''.2 y = some (.inr (.inr (10, mo y z''.1))) → τ'''.2 (y + 15) = some (.inl (0, 6, z''.2)) → τ'''.2 (y + 16) = some (.inl (0, 6, z.2.2)) → (∀ q, q ≠ y → q ≠ y + 15 → q ≠ y + 16 → τ'''.2 q = σ.2 q) → Ev Γ 0 0 m_M_passes 0 0 85 [some (.ref y), some (.int (nI s)), some (.int (nI p)), none, some (.int (nI w)), some (.int (nI k)), some (.int (nI k')), some (.int (nI k''))] [] τ''' Q) (F_m_passes_85 S P sd w g v_still v_endedAt k z k' z') (S.1) (fun k'' z'' hk'' hx'' => ?_) (S.1) 0 (z'.1, z'.2) (by omega) ?_ τ'' fr m1 m0 m_still m_endedAt kp
          · skip
            intro τ''' fr m1 m0 m_still m_endedAt kp
            have hM : isM _ y z''.1 A := ⟨m0, m1⟩
            refine Ev.iload rfl rfl ?_
            refine Ev.aload_n rfl rfl ?_
            refine Ev.getf rfl rfl m0 rfl ?_
            refine Ev.iload_n rfl rfl ?_
            refine Ev.ialdN (k := s) rfl m1 (nq_to (a := s) rfl (by omega)) ⟨(by omega), by decide⟩ ?_
            rw [hS.1]
            refine Ev.jge (tgt := 171) rfl (by decide) (fun c93 => absurd (nI_lt hk'' (by omega)) c93) (fun c93 => ?_)
            refine Ev.aload_n rfl rfl ?_
            refine Ev.getf rfl rfl m0 rfl ?_
            refine Ev.iload rfl rfl ?_
            refine Ev.ialdN (k := k') rfl m_still rfl ⟨(by omega), by decide⟩ ?_
            refine Ev.iload rfl rfl ?_
            refine Ev.ishr rfl ?_
            refine Ev.iconst (v := 1) rfl (by decide) ?_
            refine Ev.iand rfl ?_
            refine Ev.zne (tgt := 114) rfl (by decide) (fun c108 => ?_) (fun c108 => ?_)
            · skip
              refine Ev.aload_n rfl rfl ?_
              refine Ev.bipush (v := 100) rfl (by decide) ?_
              refine Ev.xV1 rfl rfl m0 rfl rfl (by decide) ⟨(Nat.le_refl _), (Nat.le_refl _)⟩ (m_drawn_ok m0) (fun τ4 f1 q1 => ?_)
              have m0 := q1
              have m1 := frm.cell f1 m1 (by omega)
              have m_still := frm.cell f1 m_still (by omega)
              have m_endedAt := frm.cell f1 m_endedAt (by omega)
              have kp : (∀ q, q ≠ y → q ≠ y + 15 → q ≠ y + 16 → τ4.2 q = σ.2 q) := fun q n0 n1 n2 => (f1.2 q (by omega)).trans (kp q n0 n1 n2)
              have fr := fr.step f1 (by omega) (by omega)
              have hM : isM _ y ((K_m_drawn z''.1).2) A := ⟨m0, m1⟩
              refine Ev.aload_n rfl rfl ?_
              refine Ev.iload_n rfl rfl ?_
              refine Ev.aload_n rfl rfl ?_
              refine Ev.getf rfl rfl m0 rfl ?_
              refine Ev.aload_n rfl rfl ?_
              refine Ev.iload_n rfl rfl ?_
              refine Ev.iload rfl rfl ?_
              refine Ev.cV2 rfl rfl m0 rfl rfl (by decide) ⟨(Nat.le_refl _), (Nat.le_refl _)⟩ (m_classAt_ok hM k') ?_
              refine Ev.iconst (v := 3) rfl (by decide) ?_
              refine Ev.iadd rfl ?_
              refine Ev.ialdN (k := 970 + 40 * p + 1 + 6 * k' + 3) rfl m1 (nq_to (a := 970 + 40 * p + 1 + 6 * k' + 3) (nq_add (a := 970 + 40 * p + 1 + 6 * k') (b := 3) rfl (rfl : (3 : Int32) = nI 3)) (by omega)) ⟨(by omega), by decide⟩ ?_
              rw [show A (970 + 40 * p + 1 + 6 * k' + 3) = _ from hP.2 k' (by omega) 3 (by decide)]
              refine Ev.aload_n rfl rfl ?_
              refine Ev.iload_n rfl rfl ?_
              refine Ev.iload rfl rfl ?_
              refine Ev.cV2 rfl rfl m0 rfl rfl (by decide) ⟨(Nat.le_refl _), (Nat.le_refl _)⟩ (m_step_ok hM hS hs hwS k'' (by omega)) ?_
              refine Ev.cV3 rfl rfl m0 rfl rfl (by decide) ⟨(Nat.le_refl _), (Nat.le_refl _)⟩ (m_stay_ok hM hS hs _ _ (bd1 (hwP.2 _ (by omega)).2.2.2.1 (hwS.2.2.1 _ (by omega)).1) (bd2 (hwP.2 _ (by omega)).2.2.2.1 (hwS.2.2.1 _ (by omega)).1)) ?_
              refine Ev.jlt (tgt := 165) rfl (by decide) (fun c146 => ?_) (fun c146 => ?_)
              · skip
                refine Ev.iinc (d := 1) rfl rfl rfl (by decide) rfl ?_
                refine Ev.goto (tgt := 85) rfl (by decide) ?_
                have hF : (F_m_passes_85 S P sd w g v_still v_endedAt k z k' z') k'' z'' = ((K_m_drawn z''.1).2, z''.2) := by
                  unfold F_m_passes_85
                  rw [if_neg c108]
                  rw [if_pos c146]
                rw [hF] at hx''
                exact (hx'' τ4 fr m1 m0 m_still m_endedAt kp).fg (gs rfl (gs rfl (gs rfl (gn (gs rfl (gs rfl (gs rfl (gs (congrArg Value.int (show nI (k'' + 1) = (nI k'') + (1 : Int32) from (nq_to (a := k'' + 1) (nq_add (a := k'') (b := 1) rfl (rfl : (1 : Int32) = nI 1)) (by omega)).symm)) gz))))))))
              · skip
                refine Ev.aload_n rfl rfl ?_
                refine Ev.getf rfl rfl m0 rfl ?_
                refine Ev.iload rfl rfl ?_
                refine Ev.dup2 rfl rfl rfl ?_
                refine Ev.ialdN (k := k') rfl m_still rfl ⟨(by omega), by decide⟩ ?_
                refine Ev.iconst (v := 1) rfl (by decide) ?_
                refine Ev.iload rfl rfl ?_
                refine Ev.ishl rfl ?_
                refine Ev.iconst (v := (-1)) rfl (by decide) ?_
                refine Ev.ixor rfl ?_
                refine Ev.iand rfl ?_
                refine Ev.iastE (k := k') rfl m_still rfl ⟨(by omega), by decide⟩ (fun τ5 f1 m_still => ?_)
                have m1 := frm.cell f1 m1 (by omega)
                have m0 := frm.cell f1 m0 (by omega)
                have m_endedAt := frm.cell f1 m_endedAt (by omega)
                have kp : (∀ q, q ≠ y → q ≠ y + 15 → q ≠ y + 16 → τ5.2 q = σ.2 q) := fun q n0 n1 n2 => (f1.2 q (by omega)).trans (kp q n0 n1 n2)
                have fr := fr.step f1 (by omega) (by omega)
                have hM : isM _ y ((K_m_drawn z''.1).2) A := ⟨m0, m1⟩
                refine Ev.iinc (d := 1) rfl rfl rfl (by decide) rfl ?_
                refine Ev.goto (tgt := 85) rfl (by decide) ?_
                have hF : (F_m_passes_85 S P sd w g v_still v_endedAt k z k' z') k'' z'' = ((K_m_drawn z''.1).2, (upd z''.2 k' ((z''.2 k') &&& (((1 : Int32) <<< ((nI k'') &&& 31)) ^^^ (-1 : Int32))))) := by
                  unfold F_m_passes_85
                  rw [if_neg c108]
                  rw [if_neg c146]
                rw [hF] at hx''
                exact (hx'' τ5 fr m1 m0 m_still m_endedAt kp).fg (gs rfl (gs rfl (gs rfl (gn (gs rfl (gs rfl (gs rfl (gs (congrArg Value.int (show nI (k'' + 1) = (nI k'') + (1 : Int32) from (nq_to (a := k'' + 1) (nq_add (a := k'') (b := 1) rfl (rfl : (1 : Int32) = nI 1)) (by omega)).symm)) gz))))))))
            · skip
              refine Ev.goto (tgt := 165) rfl (by decide) ?_
              refine Ev.iinc (d := 1) rfl rfl rfl (by decide) rfl ?_
              refine Ev.goto (tgt := 85) rfl (by decide) ?_
              have hF : (F_m_passes_85 S P sd w g v_still v_endedAt k z k' z') k'' z'' = (z''.1, z''.2) := by
                unfold F_m_passes_85
                rw [if_pos c108]
              rw [hF] at hx''
              exact (hx'' τ''' fr m1 m0 m_still m_endedAt kp).fg (gs rfl (gs rfl (gs rfl (gn (gs rfl (gs rfl (gs rfl (gs (congrArg Value.int (show nI (k'' + 1) = (nI k'') + (1 : Int32) from (nq_to (a := k'' + 1) (nq_add (a := k'') (b := 1) rfl (rfl : (1 : Int32) = nI 1)) (by omega)).symm)) gz))))))))
          · skip
            intro τ''' fr m1 m0 m_still m_endedAt kp
            have hM : isM _ y ((fo (F_m_passes_85 S P sd w g v_still v_endedAt k z k' z') (S.1) 0 (z'.1, z'.2)).1) A := ⟨m0, m1⟩
            refine Ev.iload rfl rfl ?_
            refine Ev.aload_n rfl rfl ?_
            refine Ev.getf rfl rfl m0 rfl ?_
            refine Ev.iload_n rfl rfl ?_
            refine Ev.ialdN (k := s) rfl m1 (nq_to (a := s) rfl (by omega)) ⟨(by omega), by decide⟩ ?_
            rw [hS.1]
            refine Ev.jge (tgt := 171) rfl (by decide) (fun c93 => ?_) (fun c93 => absurd c93 (nI_nlt (Nat.le_refl _) (by omega)))
            refine Ev.iinc (d := 1) rfl rfl rfl (by decide) rfl ?_
            refine Ev.goto (tgt := 59) rfl (by decide) ?_
            have hF : (F_m_passes_59 S P sd w g v_still v_endedAt k z) k' z' = ((fo (F_m_passes_85 S P sd w g v_still v_endedAt k z k' z') (S.1) 0 (z'.1, z'.2)).1, (fo (F_m_passes_85 S P sd w g v_still v_endedAt k z k' z') (S.1) 0 (z'.1, z'.2)).2) := by
              unfold F_m_passes_59
              rw [if_pos c76]
            rw [hF] at hx'
            exact (hx' τ''' fr m1 m0 m_still m_endedAt kp).fg (gs rfl (gs rfl (gs rfl (gn (gs rfl (gs rfl (gs (congrArg Value.int (show nI (k' + 1) = (nI k') + (1 : Int32) from (nq_to (a := k' + 1) (nq_add (a := k') (b := 1) rfl (rfl : (1 : Int32) = nI 1)) (by omega)).symm)) (gn gz))))))))
        · skip
          refine Ev.goto (tgt := 171) rfl (by decide) ?_
          refine Ev.iinc (d := 1) rfl rfl rfl (by decide) rfl ?_
          refine Ev.goto (tgt := 59) rfl (by decide) ?_
          have hF : (F_m_passes_59 S P sd w g v_still v_endedAt k z) k' z' = (z'.1, z'.2) := by
            unfold F_m_passes_59
            rw [if_neg c76]
          rw [hF] at hx'
          exact (hx' τ'' fr m1 m0 m_still m_endedAt kp).fg (gs rfl (gs rfl (gs rfl (gn (gs rfl (gs rfl (gs (congrArg Value.int (show nI (k' + 1) = (nI k') + (1 : Int32) from (nq_to (a := k' + 1) (nq_add (a := k') (b := 1) rfl (rfl : (1 : Int32) = nI 1)) (by omega)).symm)) (gn gz))))))))
      · skip
        intro τ'' fr m1 m0 m_still m_endedAt kp
        have hM : isM _ y ((fo (F_m_passes_59 S P sd w g v_still v_endedAt k z) (P.1) 0 (z.1, z.2.1)).1) A := ⟨m0, m1⟩
        refine Ev.iload rfl rfl ?_
        refine Ev.aload_n rfl rfl ?_
        refine Ev.iload_n rfl rfl ?_
        refine Ev.cV1 rfl rfl m0 rfl rfl (by decide) ⟨(Nat.le_refl _), (Nat.le_refl _)⟩ (m_classes_ok hM hP hp h6) ?_
        refine Ev.jge (tgt := 177) rfl (by decide) (fun c66 => ?_) (fun c66 => absurd c66 (nI_nlt (Nat.le_refl _) (by omega)))
        refine Ev.iconst (v := 0) rfl (by decide) ?_
        refine Ev.istore rfl rfl rfl ?_
        refine Ev.fg (L := [some (.ref y), some (.int (nI s)), some (.int (nI p)), none, some (.int (nI w)), some (.int (nI k)), some (.int (nI 0)), none]) ?_ (gs rfl (gs rfl (gs rfl (gn (gs rfl (gs rfl (gs (congrArg Value.int (rfl : (0 : Int32) = nI 0).symm) (gn gz))))))))
        refine lp (fun (k' : Nat) (z' : (Nat → Int32) × (Nat → Int32)) => ∀ τ'' : ex_S, frm σ τ'' y (y + 17) → τ''.2 (y + 1) = some (.inl (0, 4500, A)) → τ''.2 y = some (.inr (.inr (10, mo y ((fo (F_m_passes_59 S P sd w g v_still v_endedAt k z) (P.1) 0 (z.1, z.2.1)).1)))) → τ''.2 (y + 15) = some (.inl (0, 6, z'.1)) → τ''.2 (y + 16) = some (.inl (0, 6, z'.2)) → (∀ q, q ≠ y → q ≠ y + 15 → q ≠ y + 16 → τ''.2 q = σ.2 q) → Ev Γ 0 0 m_M_passes 0 0 180 [some (.ref y), some (.int (nI s)), some (.int (nI p)), none, some (.int (nI w)), some (.int (nI k)), some (.int (nI k')), none] [] τ'' Q) (F_m_passes_180 S P sd w g v_still v_endedAt k z) (P.1) (fun k' z' hk' hx' => ?_) (P.1) 0 ((fo (F_m_passes_59 S P sd w g v_still v_endedAt k z) (P.1) 0 (z.1, z.2.1)).2, z.2.2) (by omega) ?_ τ'' fr m1 m0 m_still m_endedAt kp
        · skip
          intro τ'' fr m1 m0 m_still m_endedAt kp
          have hM : isM _ y ((fo (F_m_passes_59 S P sd w g v_still v_endedAt k z) (P.1) 0 (z.1, z.2.1)).1) A := ⟨m0, m1⟩
          refine Ev.iload rfl rfl ?_
          refine Ev.aload_n rfl rfl ?_
          refine Ev.iload_n rfl rfl ?_
          refine Ev.cV1 rfl rfl m0 rfl rfl (by decide) ⟨(Nat.le_refl _), (Nat.le_refl _)⟩ (m_classes_ok hM hP hp h6) ?_
          refine Ev.jge (tgt := 247) rfl (by decide) (fun c187 => absurd (nI_lt hk' (by omega)) c187) (fun c187 => ?_)
          refine Ev.aload_n rfl rfl ?_
          refine Ev.getf rfl rfl m0 rfl ?_
          refine Ev.iload rfl rfl ?_
          refine Ev.ialdN (k := k') rfl m_endedAt rfl ⟨(by omega), by decide⟩ ?_
          refine Ev.zge (tgt := 241) rfl (by decide) (fun c197 => ?_) (fun c197 => ?_)
          · skip
            refine Ev.iinc (d := 1) rfl rfl rfl (by decide) rfl ?_
            refine Ev.goto (tgt := 180) rfl (by decide) ?_
            have hF : (F_m_passes_180 S P sd w g v_still v_endedAt k z) k' z' = (z'.1, z'.2) := by
              unfold F_m_passes_180
              rw [if_neg c197]
            rw [hF] at hx'
            exact (hx' τ'' fr m1 m0 m_still m_endedAt kp).fg (gs rfl (gs rfl (gs rfl (gn (gs rfl (gs rfl (gs (congrArg Value.int (show nI (k' + 1) = (nI k') + (1 : Int32) from (nq_to (a := k' + 1) (nq_add (a := k') (b := 1) rfl (rfl : (1 : Int32) = nI 1)) (by omega)).symm)) (gn gz))))))))
          · skip
            refine Ev.aload_n rfl rfl ?_
            refine Ev.getf rfl rfl m0 rfl ?_
            refine Ev.iload rfl rfl ?_
            refine Ev.ialdN (k := k') rfl m_still rfl ⟨(by omega), by decide⟩ ?_
            refine Ev.cS1 rfl rfl rfl (by decide) ⟨(Nat.le_refl _), (Nat.le_refl _)⟩ (m_many_ok _) ?_
            refine Ev.aload_n rfl rfl ?_
            refine Ev.getf rfl rfl m0 rfl ?_
            refine Ev.iload_n rfl rfl ?_
            refine Ev.iconst (v := 4) rfl (by decide) ?_
            refine Ev.iadd rfl ?_
            refine Ev.ialdN (k := s + 4) rfl m1 (nq_to (a := s + 4) (nq_add (a := s) (b := 4) rfl (rfl : (4 : Int32) = nI 4)) (by omega)) ⟨(by omega), by decide⟩ ?_
            rw [show A (s + 4) = _ from hS.2.2.1 2 (by decide)]
            refine Ev.jlt (tgt := 224) rfl (by decide) (fun c218 => ?_) (fun c218 => ?_)
            · skip
              refine Ev.aload_n rfl rfl ?_
              refine Ev.getf rfl rfl m0 rfl ?_
              refine Ev.iload rfl rfl ?_
              refine Ev.iload rfl rfl ?_
              refine Ev.iastE (k := k') rfl m_endedAt rfl ⟨(by omega), by decide⟩ (fun τ6 f1 m_endedAt => ?_)
              have m1 := frm.cell f1 m1 (by omega)
              have m0 := frm.cell f1 m0 (by omega)
              have m_still := frm.cell f1 m_still (by omega)
              have kp : (∀ q, q ≠ y → q ≠ y + 15 → q ≠ y + 16 → τ6.2 q = σ.2 q) := fun q n0 n1 n2 => (f1.2 q (by omega)).trans (kp q n0 n1 n2)
              have fr := fr.step f1 (by omega) (by omega)
              have hM : isM _ y ((fo (F_m_passes_59 S P sd w g v_still v_endedAt k z) (P.1) 0 (z.1, z.2.1)).1) A := ⟨m0, m1⟩
              refine Ev.aload_n rfl rfl ?_
              refine Ev.getf rfl rfl m0 rfl ?_
              refine Ev.iload rfl rfl ?_
              refine Ev.iconst (v := 0) rfl (by decide) ?_
              refine Ev.iastE (k := k') rfl m_still rfl ⟨(by omega), by decide⟩ (fun τ7 f1 m_still => ?_)
              have m1 := frm.cell f1 m1 (by omega)
              have m0 := frm.cell f1 m0 (by omega)
              have m_endedAt := frm.cell f1 m_endedAt (by omega)
              have kp : (∀ q, q ≠ y → q ≠ y + 15 → q ≠ y + 16 → τ7.2 q = σ.2 q) := fun q n0 n1 n2 => (f1.2 q (by omega)).trans (kp q n0 n1 n2)
              have fr := fr.step f1 (by omega) (by omega)
              have hM : isM _ y ((fo (F_m_passes_59 S P sd w g v_still v_endedAt k z) (P.1) 0 (z.1, z.2.1)).1) A := ⟨m0, m1⟩
              refine Ev.iinc (d := 1) rfl rfl rfl (by decide) rfl ?_
              refine Ev.goto (tgt := 180) rfl (by decide) ?_
              have hF : (F_m_passes_180 S P sd w g v_still v_endedAt k z) k' z' = ((upd z'.1 k' (0 : Int32)), (upd z'.2 k' (nI k))) := by
                unfold F_m_passes_180
                rw [if_pos c197]
                rw [if_pos c218]
              rw [hF] at hx'
              exact (hx' τ7 fr m1 m0 m_still m_endedAt kp).fg (gs rfl (gs rfl (gs rfl (gn (gs rfl (gs rfl (gs (congrArg Value.int (show nI (k' + 1) = (nI k') + (1 : Int32) from (nq_to (a := k' + 1) (nq_add (a := k') (b := 1) rfl (rfl : (1 : Int32) = nI 1)) (by omega)).symm)) (gn gz))))))))
            · skip
              refine Ev.goto (tgt := 241) rfl (by decide) ?_
              refine Ev.iinc (d := 1) rfl rfl rfl (by decide) rfl ?_
              refine Ev.goto (tgt := 180) rfl (by decide) ?_
              have hF : (F_m_passes_180 S P sd w g v_still v_endedAt k z) k' z' = (z'.1, z'.2) := by
                unfold F_m_passes_180
                rw [if_pos c197]
                rw [if_neg c218]
              rw [hF] at hx'
              exact (hx' τ'' fr m1 m0 m_still m_endedAt kp).fg (gs rfl (gs rfl (gs rfl (gn (gs rfl (gs rfl (gs (congrArg Value.int (show nI (k' + 1) = (nI k') + (1 : Int32) from (nq_to (a := k' + 1) (nq_add (a := k') (b := 1) rfl (rfl : (1 : Int32) = nI 1)) (by omega)).symm)) (gn gz))))))))
        · skip
          intro τ'' fr m1 m0 m_still m_endedAt kp
          have hM : isM _ y ((fo (F_m_passes_59 S P sd w g v_still v_endedAt k z) (P.1) 0 (z.1, z.2.1)).1) A := ⟨m0, m1⟩
          refine Ev.iload rfl rfl ?_
          refine Ev.aload_n rfl rfl ?_
          refine Ev.iload_n rfl rfl ?_
          refine Ev.cV1 rfl rfl m0 rfl rfl (by decide) ⟨(Nat.le_refl _), (Nat.le_refl _)⟩ (m_classes_ok hM hP hp h6) ?_
          refine Ev.jge (tgt := 247) rfl (by decide) (fun c187 => ?_) (fun c187 => absurd c187 (nI_nlt (Nat.le_refl _) (by omega)))
          refine Ev.iinc (d := 1) rfl rfl rfl (by decide) rfl ?_
          refine Ev.goto (tgt := 49) rfl (by decide) ?_
          have hF : (F_m_passes_49 S P sd w g v_still v_endedAt) k z = ((fo (F_m_passes_59 S P sd w g v_still v_endedAt k z) (P.1) 0 (z.1, z.2.1)).1, (fo (F_m_passes_180 S P sd w g v_still v_endedAt k z) (P.1) 0 ((fo (F_m_passes_59 S P sd w g v_still v_endedAt k z) (P.1) 0 (z.1, z.2.1)).2, z.2.2)).1, (fo (F_m_passes_180 S P sd w g v_still v_endedAt k z) (P.1) 0 ((fo (F_m_passes_59 S P sd w g v_still v_endedAt k z) (P.1) 0 (z.1, z.2.1)).2, z.2.2)).2) := by rfl
          rw [hF] at hx
          exact (hx τ'' fr m1 m0 m_still m_endedAt kp).fg (gs rfl (gs rfl (gs rfl (gn (gs rfl (gs (congrArg Value.int (show nI (k + 1) = (nI k) + (1 : Int32) from (nq_to (a := k + 1) (nq_add (a := k) (b := 1) rfl (rfl : (1 : Int32) = nI 1)) (by omega)).symm)) (gn (gn gz))))))))
    · skip
      intro τ' fr m1 m0 m_still m_endedAt kp
      have hM : isM _ y ((fo (F_m_passes_49 S P sd w g v_still v_endedAt) ((w + 1) - 1) 1 ((upd g 27 sd), (fo (F_m_passes_8 S P sd w g v_still v_endedAt) (P.1) 0 (v_still, v_endedAt)).1, (fo (F_m_passes_8 S P sd w g v_still v_endedAt) (P.1) 0 (v_still, v_endedAt)).2)).1) A := ⟨m0, m1⟩
      refine Ev.iload rfl rfl ?_
      refine Ev.iload rfl rfl ?_
      refine Ev.jgt (tgt := 253) rfl (by decide) (fun c53 => ?_) (fun c53 => absurd (nI_lt (by omega) (by omega)) c53)
      refine Ev.ret rfl rfl (Nat.le_refl _) (Nat.le_refl _) ?_
      have hK : (K_m_passes S P sd w g v_still v_endedAt) = ((fo (F_m_passes_49 S P sd w g v_still v_endedAt) ((w + 1) - 1) 1 ((upd g 27 sd), (fo (F_m_passes_8 S P sd w g v_still v_endedAt) (P.1) 0 (v_still, v_endedAt)).1, (fo (F_m_passes_8 S P sd w g v_still v_endedAt) (P.1) 0 (v_still, v_endedAt)).2)).1, (fo (F_m_passes_49 S P sd w g v_still v_endedAt) ((w + 1) - 1) 1 ((upd g 27 sd), (fo (F_m_passes_8 S P sd w g v_still v_endedAt) (P.1) 0 (v_still, v_endedAt)).1, (fo (F_m_passes_8 S P sd w g v_still v_endedAt) (P.1) 0 (v_still, v_endedAt)).2)).2.1, (fo (F_m_passes_49 S P sd w g v_still v_endedAt) ((w + 1) - 1) 1 ((upd g 27 sd), (fo (F_m_passes_8 S P sd w g v_still v_endedAt) (P.1) 0 (v_still, v_endedAt)).1, (fo (F_m_passes_8 S P sd w g v_still v_endedAt) (P.1) 0 (v_still, v_endedAt)).2)).2.2) := by rfl
      rw [← hQ]
      dsimp only
      rw [hK]
      exact ⟨rfl, fr, m0, m_still, m_endedAt, kp⟩
def F_m_weeksA_74 (T : Tol) (i j : Nat) (sd : Int32) (w : Nat) (g : Nat → Int32) (v_still : Nat → Int32) (v_endedAt : Nat → Int32) : Nat → Int32 → Int32 := fun k z => z + (K_many (((K_m_passes (tS T i) (tP T j) sd w g v_still v_endedAt).2.1) k))
def K_m_weeksA (T : Tol) (i j : Nat) (sd : Int32) (w : Nat) (g : Nat → Int32) (v_still : Nat → Int32) (v_endedAt : Nat → Int32) : Int32 × (Nat → Int32) × (Nat → Int32) × (Nat → Int32) := ((fo (F_m_weeksA_74 T i j sd w g v_still v_endedAt) ((tP T j).1) 0 (0 : Int32)), (K_m_passes (tS T i) (tP T j) sd w g v_still v_endedAt).1, (K_m_passes (tS T i) (tP T j) sd w g v_still v_endedAt).2.1, (K_m_passes (tS T i) (tP T j) sd w g v_still v_endedAt).2.2)
theorem m_weeksA_some (hM : isM σ y g A) (hT : mT A 0 T) (hw : wT T)  {v_still : Nat → Int32} (m_still : σ.2 (y + 15) = some (.inl (0, 6, v_still))) {v_endedAt : Nat → Int32} (m_endedAt : σ.2 (y + 16) = some (.inl (0, 6, v_endedAt))) {u v : Int32} {i j : Nat} (hg : gd T u v i j) (sd : Int32) {w : Nat} (hww : w ≤ ((tS T i).2.2 9 7).toNatClampNeg) : RetX Γ m_M_weeks [(.ref y), .int u, .int v, (.int sd), (.int (nI w)), (.int (-1 : Int32))] σ y (y + 17) (some (.int ((K_m_weeksA T i j sd w g v_still v_endedAt).1))) (fun τ => τ.2 y = some (.inr (.inr (10, mo y ((K_m_weeksA T i j sd w g v_still v_endedAt).2.1)))) ∧ τ.2 (y + 15) = some (.inl (0, 6, (K_m_weeksA T i j sd w g v_still v_endedAt).2.2.1)) ∧ τ.2 (y + 16) = some (.inl (0, 6, (K_m_weeksA T i j sd w g v_still v_endedAt).2.2.2)) ∧ (∀ q, q ≠ y → q ≠ y + 15 → q ≠ y + 16 → τ.2 q = σ.2 q)) := by
  obtain ⟨m0, m1⟩ := id hM
  have hgd := hg
  obtain ⟨rfl, hi, rfl, hj, hgo⟩ := hg
  have hi3 : i < 3 := by have := hw.2.1; omega
  have hj3 : j < 3 := by have := hw.2.2.1; omega
  have hwS := hw.2.2.2.1 i hi
  have hwP := hw.2.2.2.2 j hj
  have hn16 := hwS.1
  have hn5 := hwS.2.1
  have h6 := hwP.1
  have hS := hT.s hi
  have hP := hT.p hj
  have hs : 610 + 120 * i + 120 ≤ 4500 := by omega
  have hwk30 := (wk_cl hwS).2
  unfold RetX
  generalize hQ : (fun (r : Option Value) (τ : ex_S) => r = some (.int ((K_m_weeksA T i j sd w g v_still v_endedAt).1)) ∧ frm σ τ y (y + 17) ∧ (fun τ : ex_S => τ.2 y = some (.inr (.inr (10, mo y ((K_m_weeksA T i j sd w g v_still v_endedAt).2.1)))) ∧ τ.2 (y + 15) = some (.inl (0, 6, (K_m_weeksA T i j sd w g v_still v_endedAt).2.2.1)) ∧ τ.2 (y + 16) = some (.inl (0, 6, (K_m_weeksA T i j sd w g v_still v_endedAt).2.2.2)) ∧ (∀ q, q ≠ y → q ≠ y + 15 → q ≠ y + 16 → τ.2 q = σ.2 q)) τ) = Q
  refine Ret.start pm_255 rfl ?_
  have fr : frm σ σ y (y + 17) := frm.rf
  have kp : (∀ q, q ≠ y → q ≠ y + 15 → q ≠ y + 16 → σ.2 q = σ.2 q) := fun _ _ _ _ => rfl
  have hM : isM _ y g A := ⟨m0, m1⟩
  refine Ev.aload_n rfl rfl ?_
  refine Ev.iload_n rfl rfl ?_
  refine Ev.iload_n rfl rfl ?_
  refine Ev.cV2 rfl rfl m0 rfl rfl (by decide) ⟨(Nat.le_refl _), (Nat.le_refl _)⟩ (m_goes_yes hM hT hw hgd) ?_
  refine Ev.zeq (tgt := 53) rfl (by decide) (fun c6 => absurd c6 (by decide)) (fun c6 => ?_)
  refine Ev.iload rfl rfl ?_
  refine Ev.iconst (v := 0) rfl (by decide) ?_
  refine Ev.aload_n rfl rfl ?_
  refine Ev.getf rfl rfl m0 rfl ?_
  refine Ev.iconst (v := 0) rfl (by decide) ?_
  refine Ev.iload_n rfl rfl ?_
  refine Ev.cS2 rfl rfl rfl (by decide) ⟨(Nat.le_refl _), (Nat.le_refl _)⟩ (m_pl0_ok i) ?_
  refine Ev.bipush (v := 9) rfl (by decide) ?_
  refine Ev.iadd rfl ?_
  refine Ev.ialdN (k := 610 + 120 * i + 9) rfl m1 (nq_to (a := 610 + 120 * i + 9) (nq_add (a := 610 + 120 * i) (b := 9) rfl (rfl : (9 : Int32) = nI 9)) (by omega)) ⟨(by omega), by decide⟩ ?_
  rw [show A (610 + 120 * i + 9) = _ from hS.2.2.1 7 (by decide)]
  refine Ev.cS3 rfl rfl rfl (by decide) ⟨(Nat.le_refl _), (Nat.le_refl _)⟩ (m_in_y (K_inwk hwS hww)) ?_
  refine Ev.zeq (tgt := 53) rfl (by decide) (fun c28 => absurd c28 (by decide)) (fun c28 => ?_)
  refine Ev.iload rfl rfl ?_
  refine Ev.iconst (v := (-1)) rfl (by decide) ?_
  refine Ev.jeq (tgt := 55) rfl (by decide) (fun c34 => ?_) (fun c34 => absurd (by decide) c34)
  refine Ev.aload_n rfl rfl ?_
  refine Ev.iconst (v := 0) rfl (by decide) ?_
  refine Ev.iload_n rfl rfl ?_
  refine Ev.cS2 rfl rfl rfl (by decide) ⟨(Nat.le_refl _), (Nat.le_refl _)⟩ (m_pl0_ok i) ?_
  refine Ev.iload_n rfl rfl ?_
  refine Ev.iload_n rfl rfl ?_
  refine Ev.iload rfl rfl ?_
  refine Ev.xV4u rfl rfl m0 rfl rfl (by decide) ⟨(Nat.le_refl _), (Nat.le_refl _)⟩ (m_passes_ok hM hS hs hwS hP hj3 hwP hgo m_still m_endedAt _ rfl (by omega)) (fun τ1 f1 q1 => ?_)
  obtain ⟨m0, m_still, m_endedAt, k1⟩ := q1
  have m1 := (k1 _ (by omega) (by omega) (by omega)).trans m1
  have kp : (∀ q, q ≠ y → q ≠ y + 15 → q ≠ y + 16 → τ1.2 q = σ.2 q) := fun q n0 n1 n2 => (k1 q (by omega) (by omega) (by omega)).trans (kp q n0 n1 n2)
  have fr := fr.step f1 (by omega) (by omega)
  have hM : isM _ y ((K_m_passes (tS T i) (tP T j) sd w g v_still v_endedAt).1) A := ⟨m0, m1⟩
  refine Ev.iconst (v := 0) rfl (by decide) ?_
  refine Ev.istore rfl rfl rfl ?_
  refine Ev.iconst (v := 0) rfl (by decide) ?_
  refine Ev.istore rfl rfl rfl ?_
  refine Ev.fg (L := [some (.ref y), none, some (.int (nI j)), none, none, some (.int (-1 : Int32)), some (.int (0 : Int32)), some (.int (nI 0))]) ?_ (gs rfl (gn (gs rfl (gn (gn (gs rfl (gs rfl (gs (congrArg Value.int (rfl : (0 : Int32) = nI 0).symm) gz))))))))
  refine lp (fun (k : Nat) (z : Int32) => Ev Γ 0 0 m_M_weeks 0 0 74 [some (.ref y), none, some (.int (nI j)), none, none, some (.int (-1 : Int32)), some (.int z), some (.int (nI k))] [] τ1 Q) (F_m_weeksA_74 T i j sd w g v_still v_endedAt) ((tP T j).1) (fun k z hk hx => ?_) ((tP T j).1) 0 (0 : Int32) (by omega) ?_
  · skip
    refine Ev.iload rfl rfl ?_
    refine Ev.aload_n rfl rfl ?_
    refine Ev.iload_n rfl rfl ?_
    refine Ev.cV1 rfl rfl m0 rfl rfl (by decide) ⟨(Nat.le_refl _), (Nat.le_refl _)⟩ (m_classes_ok hM hP hj3 h6) ?_
    refine Ev.jge (tgt := 122) rfl (by decide) (fun c81 => absurd (nI_lt hk (by omega)) c81) (fun c81 => ?_)
    refine Ev.iload rfl rfl ?_
    refine Ev.iload rfl rfl ?_
    refine Ev.iconst (v := (-1)) rfl (by decide) ?_
    refine Ev.jeq (tgt := 99) rfl (by decide) (fun c89 => ?_) (fun c89 => absurd (by decide) c89)
    refine Ev.aload_n rfl rfl ?_
    refine Ev.getf rfl rfl m0 rfl ?_
    refine Ev.iload rfl rfl ?_
    refine Ev.ialdN (k := k) rfl m_still rfl ⟨(by omega), by decide⟩ ?_
    refine Ev.cS1 rfl rfl rfl (by decide) ⟨(Nat.le_refl _), (Nat.le_refl _)⟩ (m_many_ok _) ?_
    refine Ev.goto (tgt := 113) rfl (by decide) ?_
    refine Ev.iadd rfl ?_
    refine Ev.istore rfl rfl rfl ?_
    refine Ev.iinc (d := 1) rfl rfl rfl (by decide) rfl ?_
    refine Ev.goto (tgt := 74) rfl (by decide) ?_
    have hF : (F_m_weeksA_74 T i j sd w g v_still v_endedAt) k z = z + (K_many (((K_m_passes (tS T i) (tP T j) sd w g v_still v_endedAt).2.1) k)) := by rfl
    rw [hF] at hx
    exact hx.fg (gs rfl (gn (gs rfl (gn (gn (gs rfl (gs rfl (gs (congrArg Value.int (show nI (k + 1) = (nI k) + (1 : Int32) from (nq_to (a := k + 1) (nq_add (a := k) (b := 1) rfl (rfl : (1 : Int32) = nI 1)) (by omega)).symm)) gz))))))))
  · skip
    refine Ev.iload rfl rfl ?_
    refine Ev.aload_n rfl rfl ?_
    refine Ev.iload_n rfl rfl ?_
    refine Ev.cV1 rfl rfl m0 rfl rfl (by decide) ⟨(Nat.le_refl _), (Nat.le_refl _)⟩ (m_classes_ok hM hP hj3 h6) ?_
    refine Ev.jge (tgt := 122) rfl (by decide) (fun c81 => ?_) (fun c81 => absurd c81 (nI_nlt (Nat.le_refl _) (by omega)))
    refine Ev.iload rfl rfl ?_
    refine Ev.iret (ty := .int) rfl rfl rfl (Nat.le_refl _) (Nat.le_refl _) ?_
    have hK : (K_m_weeksA T i j sd w g v_still v_endedAt) = ((fo (F_m_weeksA_74 T i j sd w g v_still v_endedAt) ((tP T j).1) 0 (0 : Int32)), (K_m_passes (tS T i) (tP T j) sd w g v_still v_endedAt).1, (K_m_passes (tS T i) (tP T j) sd w g v_still v_endedAt).2.1, (K_m_passes (tS T i) (tP T j) sd w g v_still v_endedAt).2.2) := by rfl
    rw [← hQ]
    dsimp only
    rw [hK]
    exact ⟨rfl, fr, m0, m_still, m_endedAt, kp⟩
def F_m_weeksK_74 (T : Tol) (i j : Nat) (sd : Int32) (w k0 : Nat) (g : Nat → Int32) (v_still : Nat → Int32) (v_endedAt : Nat → Int32) : Nat → Int32 → Int32 := fun k z => if (nI k) = (nI k0) then (z + (K_many (((K_m_passes (tS T i) (tP T j) sd w g v_still v_endedAt).2.1) k))) else (z + (0 : Int32))
def K_m_weeksK (T : Tol) (i j : Nat) (sd : Int32) (w k0 : Nat) (g : Nat → Int32) (v_still : Nat → Int32) (v_endedAt : Nat → Int32) : Int32 × (Nat → Int32) × (Nat → Int32) × (Nat → Int32) := ((fo (F_m_weeksK_74 T i j sd w k0 g v_still v_endedAt) ((tP T j).1) 0 (0 : Int32)), (K_m_passes (tS T i) (tP T j) sd w g v_still v_endedAt).1, (K_m_passes (tS T i) (tP T j) sd w g v_still v_endedAt).2.1, (K_m_passes (tS T i) (tP T j) sd w g v_still v_endedAt).2.2)
theorem m_weeksK_some (hM : isM σ y g A) (hT : mT A 0 T) (hw : wT T)  {v_still : Nat → Int32} (m_still : σ.2 (y + 15) = some (.inl (0, 6, v_still))) {v_endedAt : Nat → Int32} (m_endedAt : σ.2 (y + 16) = some (.inl (0, 6, v_endedAt))) {u v : Int32} {i j : Nat} (hg : gd T u v i j) (sd : Int32) {w k0 : Nat} (hww : w ≤ ((tS T i).2.2 9 7).toNatClampNeg) (hkk : k0 < (tP T j).1) : RetX Γ m_M_weeks [(.ref y), .int u, .int v, (.int sd), (.int (nI w)), (.int (nI k0))] σ y (y + 17) (some (.int ((K_m_weeksK T i j sd w k0 g v_still v_endedAt).1))) (fun τ => τ.2 y = some (.inr (.inr (10, mo y ((K_m_weeksK T i j sd w k0 g v_still v_endedAt).2.1)))) ∧ τ.2 (y + 15) = some (.inl (0, 6, (K_m_weeksK T i j sd w k0 g v_still v_endedAt).2.2.1)) ∧ τ.2 (y + 16) = some (.inl (0, 6, (K_m_weeksK T i j sd w k0 g v_still v_endedAt).2.2.2)) ∧ (∀ q, q ≠ y → q ≠ y + 15 → q ≠ y + 16 → τ.2 q = σ.2 q)) := by
  obtain ⟨m0, m1⟩ := id hM
  have hgd := hg
  obtain ⟨rfl, hi, rfl, hj, hgo⟩ := hg
  have hi3 : i < 3 := by have := hw.2.1; omega
  have hj3 : j < 3 := by have := hw.2.2.1; omega
  have hwS := hw.2.2.2.1 i hi
  have hwP := hw.2.2.2.2 j hj
  have hn16 := hwS.1
  have hn5 := hwS.2.1
  have h6 := hwP.1
  have hS := hT.s hi
  have hP := hT.p hj
  have hs : 610 + 120 * i + 120 ≤ 4500 := by omega
  have hwk30 := (wk_cl hwS).2
  unfold RetX
  generalize hQ : (fun (r : Option Value) (τ : ex_S) => r = some (.int ((K_m_weeksK T i j sd w k0 g v_still v_endedAt).1)) ∧ frm σ τ y (y + 17) ∧ (fun τ : ex_S => τ.2 y = some (.inr (.inr (10, mo y ((K_m_weeksK T i j sd w k0 g v_still v_endedAt).2.1)))) ∧ τ.2 (y + 15) = some (.inl (0, 6, (K_m_weeksK T i j sd w k0 g v_still v_endedAt).2.2.1)) ∧ τ.2 (y + 16) = some (.inl (0, 6, (K_m_weeksK T i j sd w k0 g v_still v_endedAt).2.2.2)) ∧ (∀ q, q ≠ y → q ≠ y + 15 → q ≠ y + 16 → τ.2 q = σ.2 q)) τ) = Q
  refine Ret.start pm_255 rfl ?_
  have fr : frm σ σ y (y + 17) := frm.rf
  have kp : (∀ q, q ≠ y → q ≠ y + 15 → q ≠ y + 16 → σ.2 q = σ.2 q) := fun _ _ _ _ => rfl
  have hM : isM _ y g A := ⟨m0, m1⟩
  refine Ev.aload_n rfl rfl ?_
  refine Ev.iload_n rfl rfl ?_
  refine Ev.iload_n rfl rfl ?_
  refine Ev.cV2 rfl rfl m0 rfl rfl (by decide) ⟨(Nat.le_refl _), (Nat.le_refl _)⟩ (m_goes_yes hM hT hw hgd) ?_
  refine Ev.zeq (tgt := 53) rfl (by decide) (fun c6 => absurd c6 (by decide)) (fun c6 => ?_)
  refine Ev.iload rfl rfl ?_
  refine Ev.iconst (v := 0) rfl (by decide) ?_
  refine Ev.aload_n rfl rfl ?_
  refine Ev.getf rfl rfl m0 rfl ?_
  refine Ev.iconst (v := 0) rfl (by decide) ?_
  refine Ev.iload_n rfl rfl ?_
  refine Ev.cS2 rfl rfl rfl (by decide) ⟨(Nat.le_refl _), (Nat.le_refl _)⟩ (m_pl0_ok i) ?_
  refine Ev.bipush (v := 9) rfl (by decide) ?_
  refine Ev.iadd rfl ?_
  refine Ev.ialdN (k := 610 + 120 * i + 9) rfl m1 (nq_to (a := 610 + 120 * i + 9) (nq_add (a := 610 + 120 * i) (b := 9) rfl (rfl : (9 : Int32) = nI 9)) (by omega)) ⟨(by omega), by decide⟩ ?_
  rw [show A (610 + 120 * i + 9) = _ from hS.2.2.1 7 (by decide)]
  refine Ev.cS3 rfl rfl rfl (by decide) ⟨(Nat.le_refl _), (Nat.le_refl _)⟩ (m_in_y (K_inwk hwS hww)) ?_
  refine Ev.zeq (tgt := 53) rfl (by decide) (fun c28 => absurd c28 (by decide)) (fun c28 => ?_)
  refine Ev.iload rfl rfl ?_
  refine Ev.iconst (v := (-1)) rfl (by decide) ?_
  refine Ev.jeq (tgt := 55) rfl (by decide) (fun c34 => absurd c34 (nI_ne_neg1 (by omega))) (fun c34 => ?_)
  refine Ev.iload rfl rfl ?_
  refine Ev.iconst (v := 0) rfl (by decide) ?_
  refine Ev.aload_n rfl rfl ?_
  refine Ev.iload_n rfl rfl ?_
  refine Ev.cV1 rfl rfl m0 rfl rfl (by decide) ⟨(Nat.le_refl _), (Nat.le_refl _)⟩ (m_classes_ok hM hP hj3 h6) ?_
  refine Ev.iconst (v := 1) rfl (by decide) ?_
  refine Ev.isub rfl ?_
  refine Ev.cS3 rfl rfl rfl (by decide) ⟨(Nat.le_refl _), (Nat.le_refl _)⟩ (m_in_y (K_in_yes hkk (by omega))) ?_
  refine Ev.zne (tgt := 55) rfl (by decide) (fun c50 => ?_) (fun c50 => absurd c50 (by decide))
  refine Ev.aload_n rfl rfl ?_
  refine Ev.iconst (v := 0) rfl (by decide) ?_
  refine Ev.iload_n rfl rfl ?_
  refine Ev.cS2 rfl rfl rfl (by decide) ⟨(Nat.le_refl _), (Nat.le_refl _)⟩ (m_pl0_ok i) ?_
  refine Ev.iload_n rfl rfl ?_
  refine Ev.iload_n rfl rfl ?_
  refine Ev.iload rfl rfl ?_
  refine Ev.xV4u rfl rfl m0 rfl rfl (by decide) ⟨(Nat.le_refl _), (Nat.le_refl _)⟩ (m_passes_ok hM hS hs hwS hP hj3 hwP hgo m_still m_endedAt _ rfl (by omega)) (fun τ1 f1 q1 => ?_)
  obtain ⟨m0, m_still, m_endedAt, k1⟩ := q1
  have m1 := (k1 _ (by omega) (by omega) (by omega)).trans m1
  have kp : (∀ q, q ≠ y → q ≠ y + 15 → q ≠ y + 16 → τ1.2 q = σ.2 q) := fun q n0 n1 n2 => (k1 q (by omega) (by omega) (by omega)).trans (kp q n0 n1 n2)
  have fr := fr.step f1 (by omega) (by omega)
  have hM : isM _ y ((K_m_passes (tS T i) (tP T j) sd w g v_still v_endedAt).1) A := ⟨m0, m1⟩
  refine Ev.iconst (v := 0) rfl (by decide) ?_
  refine Ev.istore rfl rfl rfl ?_
  refine Ev.iconst (v := 0) rfl (by decide) ?_
  refine Ev.istore rfl rfl rfl ?_
  refine Ev.fg (L := [some (.ref y), none, some (.int (nI j)), none, none, some (.int (nI k0)), some (.int (0 : Int32)), some (.int (nI 0))]) ?_ (gs rfl (gn (gs rfl (gn (gn (gs rfl (gs rfl (gs (congrArg Value.int (rfl : (0 : Int32) = nI 0).symm) gz))))))))
  refine lp (fun (k : Nat) (z : Int32) => Ev Γ 0 0 m_M_weeks 0 0 74 [some (.ref y), none, some (.int (nI j)), none, none, some (.int (nI k0)), some (.int z), some (.int (nI k))] [] τ1 Q) (F_m_weeksK_74 T i j sd w k0 g v_still v_endedAt) ((tP T j).1) (fun k z hk hx => ?_) ((tP T j).1) 0 (0 : Int32) (by omega) ?_
  · skip
    refine Ev.iload rfl rfl ?_
    refine Ev.aload_n rfl rfl ?_
    refine Ev.iload_n rfl rfl ?_
    refine Ev.cV1 rfl rfl m0 rfl rfl (by decide) ⟨(Nat.le_refl _), (Nat.le_refl _)⟩ (m_classes_ok hM hP hj3 h6) ?_
    refine Ev.jge (tgt := 122) rfl (by decide) (fun c81 => absurd (nI_lt hk (by omega)) c81) (fun c81 => ?_)
    refine Ev.iload rfl rfl ?_
    refine Ev.iload rfl rfl ?_
    refine Ev.iconst (v := (-1)) rfl (by decide) ?_
    refine Ev.jeq (tgt := 99) rfl (by decide) (fun c89 => absurd c89 (nI_ne_neg1 (by omega))) (fun c89 => ?_)
    refine Ev.iload rfl rfl ?_
    refine Ev.iload rfl rfl ?_
    refine Ev.jne (tgt := 112) rfl (by decide) (fun c96 => ?_) (fun c96 => ?_)
    · skip
      refine Ev.iconst (v := 0) rfl (by decide) ?_
      refine Ev.iadd rfl ?_
      refine Ev.istore rfl rfl rfl ?_
      refine Ev.iinc (d := 1) rfl rfl rfl (by decide) rfl ?_
      refine Ev.goto (tgt := 74) rfl (by decide) ?_
      have hF : (F_m_weeksK_74 T i j sd w k0 g v_still v_endedAt) k z = z + (0 : Int32) := by
        unfold F_m_weeksK_74
        rw [if_neg c96]
      rw [hF] at hx
      exact hx.fg (gs rfl (gn (gs rfl (gn (gn (gs rfl (gs rfl (gs (congrArg Value.int (show nI (k + 1) = (nI k) + (1 : Int32) from (nq_to (a := k + 1) (nq_add (a := k) (b := 1) rfl (rfl : (1 : Int32) = nI 1)) (by omega)).symm)) gz))))))))
    · skip
      refine Ev.aload_n rfl rfl ?_
      refine Ev.getf rfl rfl m0 rfl ?_
      refine Ev.iload rfl rfl ?_
      refine Ev.ialdN (k := k) rfl m_still rfl ⟨(by omega), by decide⟩ ?_
      refine Ev.cS1 rfl rfl rfl (by decide) ⟨(Nat.le_refl _), (Nat.le_refl _)⟩ (m_many_ok _) ?_
      refine Ev.goto (tgt := 113) rfl (by decide) ?_
      refine Ev.iadd rfl ?_
      refine Ev.istore rfl rfl rfl ?_
      refine Ev.iinc (d := 1) rfl rfl rfl (by decide) rfl ?_
      refine Ev.goto (tgt := 74) rfl (by decide) ?_
      have hF : (F_m_weeksK_74 T i j sd w k0 g v_still v_endedAt) k z = z + (K_many (((K_m_passes (tS T i) (tP T j) sd w g v_still v_endedAt).2.1) k)) := by
        unfold F_m_weeksK_74
        rw [if_pos c96]
      rw [hF] at hx
      exact hx.fg (gs rfl (gn (gs rfl (gn (gn (gs rfl (gs rfl (gs (congrArg Value.int (show nI (k + 1) = (nI k) + (1 : Int32) from (nq_to (a := k + 1) (nq_add (a := k) (b := 1) rfl (rfl : (1 : Int32) = nI 1)) (by omega)).symm)) gz))))))))
  · skip
    refine Ev.iload rfl rfl ?_
    refine Ev.aload_n rfl rfl ?_
    refine Ev.iload_n rfl rfl ?_
    refine Ev.cV1 rfl rfl m0 rfl rfl (by decide) ⟨(Nat.le_refl _), (Nat.le_refl _)⟩ (m_classes_ok hM hP hj3 h6) ?_
    refine Ev.jge (tgt := 122) rfl (by decide) (fun c81 => ?_) (fun c81 => absurd c81 (nI_nlt (Nat.le_refl _) (by omega)))
    refine Ev.iload rfl rfl ?_
    refine Ev.iret (ty := .int) rfl rfl rfl (Nat.le_refl _) (Nat.le_refl _) ?_
    have hK : (K_m_weeksK T i j sd w k0 g v_still v_endedAt) = ((fo (F_m_weeksK_74 T i j sd w k0 g v_still v_endedAt) ((tP T j).1) 0 (0 : Int32)), (K_m_passes (tS T i) (tP T j) sd w g v_still v_endedAt).1, (K_m_passes (tS T i) (tP T j) sd w g v_still v_endedAt).2.1, (K_m_passes (tS T i) (tP T j) sd w g v_still v_endedAt).2.2) := by rfl
    rw [← hQ]
    dsimp only
    rw [hK]
    exact ⟨rfl, fr, m0, m_still, m_endedAt, kp⟩
def K_m_ended (T : Tol) (i j : Nat) (sd : Int32) (k0 : Nat) (g : Nat → Int32) (v_still : Nat → Int32) (v_endedAt : Nat → Int32) : Int32 × (Nat → Int32) × (Nat → Int32) × (Nat → Int32) := (((K_m_passes (tS T i) (tP T j) sd (((tS T i).2.2 9 7).toNatClampNeg) g v_still v_endedAt).2.2) k0, (K_m_passes (tS T i) (tP T j) sd (((tS T i).2.2 9 7).toNatClampNeg) g v_still v_endedAt).1, (K_m_passes (tS T i) (tP T j) sd (((tS T i).2.2 9 7).toNatClampNeg) g v_still v_endedAt).2.1, (K_m_passes (tS T i) (tP T j) sd (((tS T i).2.2 9 7).toNatClampNeg) g v_still v_endedAt).2.2)
theorem m_ended_some (hM : isM σ y g A) (hT : mT A 0 T) (hw : wT T)  {v_still : Nat → Int32} (m_still : σ.2 (y + 15) = some (.inl (0, 6, v_still))) {v_endedAt : Nat → Int32} (m_endedAt : σ.2 (y + 16) = some (.inl (0, 6, v_endedAt))) {u v : Int32} {i j : Nat} (hg : gd T u v i j) (sd : Int32) {k0 : Nat} (hkk : k0 < (tP T j).1) : RetX Γ m_M_ended [(.ref y), .int u, .int v, (.int sd), (.int (nI k0))] σ y (y + 17) (some (.int ((K_m_ended T i j sd k0 g v_still v_endedAt).1))) (fun τ => τ.2 y = some (.inr (.inr (10, mo y ((K_m_ended T i j sd k0 g v_still v_endedAt).2.1)))) ∧ τ.2 (y + 15) = some (.inl (0, 6, (K_m_ended T i j sd k0 g v_still v_endedAt).2.2.1)) ∧ τ.2 (y + 16) = some (.inl (0, 6, (K_m_ended T i j sd k0 g v_still v_endedAt).2.2.2)) ∧ (∀ q, q ≠ y → q ≠ y + 15 → q ≠ y + 16 → τ.2 q = σ.2 q)) := by
  obtain ⟨m0, m1⟩ := id hM
  have hgd := hg
  obtain ⟨rfl, hi, rfl, hj, hgo⟩ := hg
  have hi3 : i < 3 := by have := hw.2.1; omega
  have hj3 : j < 3 := by have := hw.2.2.1; omega
  have hwS := hw.2.2.2.1 i hi
  have hwP := hw.2.2.2.2 j hj
  have hn16 := hwS.1
  have hn5 := hwS.2.1
  have h6 := hwP.1
  have hS := hT.s hi
  have hP := hT.p hj
  have hs : 610 + 120 * i + 120 ≤ 4500 := by omega
  have hwk30 := (wk_cl hwS).2
  unfold RetX
  generalize hQ : (fun (r : Option Value) (τ : ex_S) => r = some (.int ((K_m_ended T i j sd k0 g v_still v_endedAt).1)) ∧ frm σ τ y (y + 17) ∧ (fun τ : ex_S => τ.2 y = some (.inr (.inr (10, mo y ((K_m_ended T i j sd k0 g v_still v_endedAt).2.1)))) ∧ τ.2 (y + 15) = some (.inl (0, 6, (K_m_ended T i j sd k0 g v_still v_endedAt).2.2.1)) ∧ τ.2 (y + 16) = some (.inl (0, 6, (K_m_ended T i j sd k0 g v_still v_endedAt).2.2.2)) ∧ (∀ q, q ≠ y → q ≠ y + 15 → q ≠ y + 16 → τ.2 q = σ.2 q)) τ) = Q
  refine Ret.start pm_256 rfl ?_
  have fr : frm σ σ y (y + 17) := frm.rf
  have kp : (∀ q, q ≠ y → q ≠ y + 15 → q ≠ y + 16 → σ.2 q = σ.2 q) := fun _ _ _ _ => rfl
  have hM : isM _ y g A := ⟨m0, m1⟩
  refine Ev.aload_n rfl rfl ?_
  refine Ev.iload_n rfl rfl ?_
  refine Ev.iload_n rfl rfl ?_
  refine Ev.iload rfl rfl ?_
  refine Ev.cV3 rfl rfl m0 rfl rfl (by decide) ⟨(Nat.le_refl _), (Nat.le_refl _)⟩ (m_isGoing_yes hM hT hw hgd hkk) ?_
  refine Ev.zne (tgt := 13) rfl (by decide) (fun c8 => ?_) (fun c8 => absurd c8 (by decide))
  refine Ev.aload_n rfl rfl ?_
  refine Ev.iconst (v := 0) rfl (by decide) ?_
  refine Ev.iload_n rfl rfl ?_
  refine Ev.cS2 rfl rfl rfl (by decide) ⟨(Nat.le_refl _), (Nat.le_refl _)⟩ (m_pl0_ok i) ?_
  refine Ev.iload_n rfl rfl ?_
  refine Ev.iload_n rfl rfl ?_
  refine Ev.aload_n rfl rfl ?_
  refine Ev.getf rfl rfl m0 rfl ?_
  refine Ev.iconst (v := 0) rfl (by decide) ?_
  refine Ev.iload_n rfl rfl ?_
  refine Ev.cS2 rfl rfl rfl (by decide) ⟨(Nat.le_refl _), (Nat.le_refl _)⟩ (m_pl0_ok i) ?_
  refine Ev.bipush (v := 9) rfl (by decide) ?_
  refine Ev.iadd rfl ?_
  refine Ev.ialdN (k := 610 + 120 * i + 9) rfl m1 (nq_to (a := 610 + 120 * i + 9) (nq_add (a := 610 + 120 * i) (b := 9) rfl (rfl : (9 : Int32) = nI 9)) (by omega)) ⟨(by omega), by decide⟩ ?_
  rw [show A (610 + 120 * i + 9) = _ from hS.2.2.1 7 (by decide)]
  refine Ev.xV4u rfl rfl m0 rfl rfl (by decide) ⟨(Nat.le_refl _), (Nat.le_refl _)⟩ (m_passes_ok hM hS hs hwS hP hj3 hwP hgo m_still m_endedAt _ (wk_cl hwS).1 (by omega)) (fun τ1 f1 q1 => ?_)
  obtain ⟨m0, m_still, m_endedAt, k1⟩ := q1
  have m1 := (k1 _ (by omega) (by omega) (by omega)).trans m1
  have kp : (∀ q, q ≠ y → q ≠ y + 15 → q ≠ y + 16 → τ1.2 q = σ.2 q) := fun q n0 n1 n2 => (k1 q (by omega) (by omega) (by omega)).trans (kp q n0 n1 n2)
  have fr := fr.step f1 (by omega) (by omega)
  have hM : isM _ y ((K_m_passes (tS T i) (tP T j) sd (((tS T i).2.2 9 7).toNatClampNeg) g v_still v_endedAt).1) A := ⟨m0, m1⟩
  refine Ev.aload_n rfl rfl ?_
  refine Ev.getf rfl rfl m0 rfl ?_
  refine Ev.iload rfl rfl ?_
  refine Ev.ialdN (k := k0) rfl m_endedAt rfl ⟨(by omega), by decide⟩ ?_
  refine Ev.iret (ty := .int) rfl rfl rfl (Nat.le_refl _) (Nat.le_refl _) ?_
  have hK : (K_m_ended T i j sd k0 g v_still v_endedAt) = (((K_m_passes (tS T i) (tP T j) sd (((tS T i).2.2 9 7).toNatClampNeg) g v_still v_endedAt).2.2) k0, (K_m_passes (tS T i) (tP T j) sd (((tS T i).2.2 9 7).toNatClampNeg) g v_still v_endedAt).1, (K_m_passes (tS T i) (tP T j) sd (((tS T i).2.2 9 7).toNatClampNeg) g v_still v_endedAt).2.1, (K_m_passes (tS T i) (tP T j) sd (((tS T i).2.2 9 7).toNatClampNeg) g v_still v_endedAt).2.2) := by rfl
  rw [← hQ]
  dsimp only
  rw [hK]
  exact ⟨rfl, fr, m0, m_still, m_endedAt, kp⟩
def F_m_holds_30 (T : Tol) (i j : Nat) (sd : Int32) (w k0 : Nat) (g : Nat → Int32) (v_still : Nat → Int32) (v_endedAt : Nat → Int32) : Nat → (Int32 × (Nat → Int32) × (Nat → Int32) × (Nat → Int32)) → (Int32 × (Nat → Int32) × (Nat → Int32) × (Nat → Int32)) := fun k z => if ((K_m_ended T i j (sd + (nI k)) k0 z.2.1 z.2.2.1 z.2.2.2).1) < (0 : Int32) then (z.1 + (1 : Int32), (K_m_ended T i j (sd + (nI k)) k0 z.2.1 z.2.2.1 z.2.2.2).2.1, (K_m_ended T i j (sd + (nI k)) k0 z.2.1 z.2.2.1 z.2.2.2).2.2.1, (K_m_ended T i j (sd + (nI k)) k0 z.2.1 z.2.2.1 z.2.2.2).2.2.2) else (z.1 + (0 : Int32), (K_m_ended T i j (sd + (nI k)) k0 z.2.1 z.2.2.1 z.2.2.2).2.1, (K_m_ended T i j (sd + (nI k)) k0 z.2.1 z.2.2.1 z.2.2.2).2.2.1, (K_m_ended T i j (sd + (nI k)) k0 z.2.1 z.2.2.1 z.2.2.2).2.2.2)
def K_m_holds (T : Tol) (i j : Nat) (sd : Int32) (w k0 : Nat) (g : Nat → Int32) (v_still : Nat → Int32) (v_endedAt : Nat → Int32) : Int32 × (Nat → Int32) × (Nat → Int32) × (Nat → Int32) := ((fo (F_m_holds_30 T i j sd w k0 g v_still v_endedAt) (w) 0 ((0 : Int32), g, v_still, v_endedAt)).1, (fo (F_m_holds_30 T i j sd w k0 g v_still v_endedAt) (w) 0 ((0 : Int32), g, v_still, v_endedAt)).2.1, (fo (F_m_holds_30 T i j sd w k0 g v_still v_endedAt) (w) 0 ((0 : Int32), g, v_still, v_endedAt)).2.2.1, (fo (F_m_holds_30 T i j sd w k0 g v_still v_endedAt) (w) 0 ((0 : Int32), g, v_still, v_endedAt)).2.2.2)
theorem m_holds_some (hM : isM σ y g A) (hT : mT A 0 T) (hw : wT T)  {v_still : Nat → Int32} (m_still : σ.2 (y + 15) = some (.inl (0, 6, v_still))) {v_endedAt : Nat → Int32} (m_endedAt : σ.2 (y + 16) = some (.inl (0, 6, v_endedAt))) {u v : Int32} {i j : Nat} (hg : gd T u v i j) (sd : Int32) {w k0 : Nat} (hv1 : 1 ≤ w) (hv8 : w ≤ 8) (hkk : k0 < (tP T j).1) : RetX Γ m_M_holds [(.ref y), .int u, .int v, (.int sd), (.int (nI w)), (.int (nI k0))] σ y (y + 17) (some (.int ((K_m_holds T i j sd w k0 g v_still v_endedAt).1))) (fun τ => τ.2 y = some (.inr (.inr (10, mo y ((K_m_holds T i j sd w k0 g v_still v_endedAt).2.1)))) ∧ τ.2 (y + 15) = some (.inl (0, 6, (K_m_holds T i j sd w k0 g v_still v_endedAt).2.2.1)) ∧ τ.2 (y + 16) = some (.inl (0, 6, (K_m_holds T i j sd w k0 g v_still v_endedAt).2.2.2)) ∧ (∀ q, q ≠ y → q ≠ y + 15 → q ≠ y + 16 → τ.2 q = σ.2 q)) := by
  obtain ⟨m0, m1⟩ := id hM
  have hgd := hg
  obtain ⟨rfl, hi, rfl, hj, hgo⟩ := hg
  have hi3 : i < 3 := by have := hw.2.1; omega
  have hj3 : j < 3 := by have := hw.2.2.1; omega
  have hwS := hw.2.2.2.1 i hi
  have hwP := hw.2.2.2.2 j hj
  have hn16 := hwS.1
  have hn5 := hwS.2.1
  have h6 := hwP.1
  have hS := hT.s hi
  have hP := hT.p hj
  have hs : 610 + 120 * i + 120 ≤ 4500 := by omega
  unfold RetX
  generalize hQ : (fun (r : Option Value) (τ : ex_S) => r = some (.int ((K_m_holds T i j sd w k0 g v_still v_endedAt).1)) ∧ frm σ τ y (y + 17) ∧ (fun τ : ex_S => τ.2 y = some (.inr (.inr (10, mo y ((K_m_holds T i j sd w k0 g v_still v_endedAt).2.1)))) ∧ τ.2 (y + 15) = some (.inl (0, 6, (K_m_holds T i j sd w k0 g v_still v_endedAt).2.2.1)) ∧ τ.2 (y + 16) = some (.inl (0, 6, (K_m_holds T i j sd w k0 g v_still v_endedAt).2.2.2)) ∧ (∀ q, q ≠ y → q ≠ y + 15 → q ≠ y + 16 → τ.2 q = σ.2 q)) τ) = Q
  refine Ret.start pm_269 rfl ?_
  have fr : frm σ σ y (y + 17) := frm.rf
  have kp : (∀ q, q ≠ y → q ≠ y + 15 → q ≠ y + 16 → σ.2 q = σ.2 q) := fun _ _ _ _ => rfl
  have hM : isM _ y g A := ⟨m0, m1⟩
  refine Ev.aload_n rfl rfl ?_
  refine Ev.iload_n rfl rfl ?_
  refine Ev.iload_n rfl rfl ?_
  refine Ev.iload rfl rfl ?_
  refine Ev.cV3 rfl rfl m0 rfl rfl (by decide) ⟨(Nat.le_refl _), (Nat.le_refl _)⟩ (m_isGoing_yes hM hT hw hgd hkk) ?_
  refine Ev.zeq (tgt := 22) rfl (by decide) (fun c8 => absurd c8 (by decide)) (fun c8 => ?_)
  refine Ev.iload rfl rfl ?_
  refine Ev.iconst (v := 1) rfl (by decide) ?_
  refine Ev.bipush (v := 8) rfl (by decide) ?_
  refine Ev.cS3 rfl rfl rfl (by decide) ⟨(Nat.le_refl _), (Nat.le_refl _)⟩ (m_in_y (K_in18 hv1 hv8)) ?_
  refine Ev.zne (tgt := 24) rfl (by decide) (fun c19 => ?_) (fun c19 => absurd c19 (by decide))
  refine Ev.iconst (v := 0) rfl (by decide) ?_
  refine Ev.istore rfl rfl rfl ?_
  refine Ev.iconst (v := 0) rfl (by decide) ?_
  refine Ev.istore rfl rfl rfl ?_
  refine Ev.fg (L := [some (.ref y), some (.int (nI i)), some (.int (nI j)), some (.int sd), some (.int (nI w)), some (.int (nI k0)), some (.int (0 : Int32)), some (.int (nI 0))]) ?_ (gs rfl (gs rfl (gs rfl (gs rfl (gs rfl (gs rfl (gs rfl (gs (congrArg Value.int (rfl : (0 : Int32) = nI 0).symm) gz))))))))
  refine lp (fun (k : Nat) (z : Int32 × (Nat → Int32) × (Nat → Int32) × (Nat → Int32)) => ∀ τ' : ex_S, frm σ τ' y (y + 17) → τ'.2 (y + 1) = some (.inl (0, 4500, A)) → τ'.2 y = some (.inr (.inr (10, mo y z.2.1))) → τ'.2 (y + 15) = some (.inl (0, 6, z.2.2.1)) → τ'.2 (y + 16) = some (.inl (0, 6, z.2.2.2)) → (∀ q, q ≠ y → q ≠ y + 15 → q ≠ y + 16 → τ'.2 q = σ.2 q) → Ev Γ 0 0 m_M_holds 0 0 30 [some (.ref y), some (.int (nI i)), some (.int (nI j)), some (.int sd), some (.int (nI w)), some (.int (nI k0)), some (.int z.1), some (.int (nI k))] [] τ' Q) (F_m_holds_30 T i j sd w k0 g v_still v_endedAt) (w) (fun k z hk hx => ?_) (w) 0 ((0 : Int32), g, v_still, v_endedAt) (by omega) ?_ σ fr m1 m0 m_still m_endedAt kp
  · skip
    intro τ' fr m1 m0 m_still m_endedAt kp
    have hM : isM _ y z.2.1 A := ⟨m0, m1⟩
    refine Ev.iload rfl rfl ?_
    refine Ev.iload rfl rfl ?_
    refine Ev.jge (tgt := 68) rfl (by decide) (fun c34 => absurd (nI_lt hk (by omega)) c34) (fun c34 => ?_)
    refine Ev.iload rfl rfl ?_
    refine Ev.aload_n rfl rfl ?_
    refine Ev.iload_n rfl rfl ?_
    refine Ev.iload_n rfl rfl ?_
    refine Ev.iload_n rfl rfl ?_
    refine Ev.iload rfl rfl ?_
    refine Ev.iadd rfl ?_
    refine Ev.iload rfl rfl ?_
    refine Ev.xV4 rfl rfl m0 rfl rfl (by decide) ⟨(Nat.le_refl _), (Nat.le_refl _)⟩ (m_ended_some hM hT hw m_still m_endedAt hgd _ hkk) (fun τ1 f1 q1 => ?_)
    obtain ⟨m0, m_still, m_endedAt, k1⟩ := q1
    have m1 := (k1 _ (by omega) (by omega) (by omega)).trans m1
    have kp : (∀ q, q ≠ y → q ≠ y + 15 → q ≠ y + 16 → τ1.2 q = σ.2 q) := fun q n0 n1 n2 => (k1 q (by omega) (by omega) (by omega)).trans (kp q n0 n1 n2)
    have fr := fr.step f1 (by omega) (by omega)
    have hM : isM _ y ((K_m_ended T i j (sd + (nI k)) k0 z.2.1 z.2.2.1 z.2.2.2).2.1) A := ⟨m0, m1⟩
    refine Ev.zge (tgt := 58) rfl (by decide) (fun c51 => ?_) (fun c51 => ?_)
    · skip
      refine Ev.iconst (v := 0) rfl (by decide) ?_
      refine Ev.iadd rfl ?_
      refine Ev.istore rfl rfl rfl ?_
      refine Ev.iinc (d := 1) rfl rfl rfl (by decide) rfl ?_
      refine Ev.goto (tgt := 30) rfl (by decide) ?_
      have hF : (F_m_holds_30 T i j sd w k0 g v_still v_endedAt) k z = (z.1 + (0 : Int32), (K_m_ended T i j (sd + (nI k)) k0 z.2.1 z.2.2.1 z.2.2.2).2.1, (K_m_ended T i j (sd + (nI k)) k0 z.2.1 z.2.2.1 z.2.2.2).2.2.1, (K_m_ended T i j (sd + (nI k)) k0 z.2.1 z.2.2.1 z.2.2.2).2.2.2) := by
        unfold F_m_holds_30
        rw [if_neg c51]
      rw [hF] at hx
      exact (hx τ1 fr m1 m0 m_still m_endedAt kp).fg (gs rfl (gs rfl (gs rfl (gs rfl (gs rfl (gs rfl (gs rfl (gs (congrArg Value.int (show nI (k + 1) = (nI k) + (1 : Int32) from (nq_to (a := k + 1) (nq_add (a := k) (b := 1) rfl (rfl : (1 : Int32) = nI 1)) (by omega)).symm)) gz))))))))
    · skip
      refine Ev.iconst (v := 1) rfl (by decide) ?_
      refine Ev.goto (tgt := 59) rfl (by decide) ?_
      refine Ev.iadd rfl ?_
      refine Ev.istore rfl rfl rfl ?_
      refine Ev.iinc (d := 1) rfl rfl rfl (by decide) rfl ?_
      refine Ev.goto (tgt := 30) rfl (by decide) ?_
      have hF : (F_m_holds_30 T i j sd w k0 g v_still v_endedAt) k z = (z.1 + (1 : Int32), (K_m_ended T i j (sd + (nI k)) k0 z.2.1 z.2.2.1 z.2.2.2).2.1, (K_m_ended T i j (sd + (nI k)) k0 z.2.1 z.2.2.1 z.2.2.2).2.2.1, (K_m_ended T i j (sd + (nI k)) k0 z.2.1 z.2.2.1 z.2.2.2).2.2.2) := by
        unfold F_m_holds_30
        rw [if_pos c51]
      rw [hF] at hx
      exact (hx τ1 fr m1 m0 m_still m_endedAt kp).fg (gs rfl (gs rfl (gs rfl (gs rfl (gs rfl (gs rfl (gs rfl (gs (congrArg Value.int (show nI (k + 1) = (nI k) + (1 : Int32) from (nq_to (a := k + 1) (nq_add (a := k) (b := 1) rfl (rfl : (1 : Int32) = nI 1)) (by omega)).symm)) gz))))))))
  · skip
    intro τ' fr m1 m0 m_still m_endedAt kp
    have hM : isM _ y ((fo (F_m_holds_30 T i j sd w k0 g v_still v_endedAt) (w) 0 ((0 : Int32), g, v_still, v_endedAt)).2.1) A := ⟨m0, m1⟩
    refine Ev.iload rfl rfl ?_
    refine Ev.iload rfl rfl ?_
    refine Ev.jge (tgt := 68) rfl (by decide) (fun c34 => ?_) (fun c34 => absurd c34 (nI_nlt (Nat.le_refl _) (by omega)))
    refine Ev.iload rfl rfl ?_
    refine Ev.iret (ty := .int) rfl rfl rfl (Nat.le_refl _) (Nat.le_refl _) ?_
    have hK : (K_m_holds T i j sd w k0 g v_still v_endedAt) = ((fo (F_m_holds_30 T i j sd w k0 g v_still v_endedAt) (w) 0 ((0 : Int32), g, v_still, v_endedAt)).1, (fo (F_m_holds_30 T i j sd w k0 g v_still v_endedAt) (w) 0 ((0 : Int32), g, v_still, v_endedAt)).2.1, (fo (F_m_holds_30 T i j sd w k0 g v_still v_endedAt) (w) 0 ((0 : Int32), g, v_still, v_endedAt)).2.2.1, (fo (F_m_holds_30 T i j sd w k0 g v_still v_endedAt) (w) 0 ((0 : Int32), g, v_still, v_endedAt)).2.2.2) := by rfl
    rw [← hQ]
    dsimp only
    rw [hK]
    exact ⟨rfl, fr, m0, m_still, m_endedAt, kp⟩
end
end
