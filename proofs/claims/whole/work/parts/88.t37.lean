/-! Sitting beside (class): who sits there, what is told, the table, the walk (walked with invariants, hoare.py). -/
noncomputable section
def cntP (S : Sch) (m n i j : Nat) (c : Nat → Int32) : Prop := ∀ a b, a < n → b < n → (a < i ∨ a = i ∧ b < j) → c (a * 12 + b) = nI (tvS S m a b)
theorem cntP_0 {S : Sch} {m n : Nat} {c : Nat → Int32} : cntP S m n 0 0 c := fun a b h1 h2 h3 => by omega
theorem cntP_up {S : Sch} {m n i j : Nat} {c : Nat → Int32} {v : Int32} (h : cntP S m n i j c) (hn : n ≤ 12) (hi : i < n) (hj : j < n) (hv : v = nI (btv S (wh m i) (wh m j))) : cntP S m n i (j + 1) (upd c (i * 12 + j) v) := by
  intro a b h1 h2 h3
  by_cases e : a = i ∧ b = j
  · obtain ⟨rfl, rfl⟩ := e
    rw [pk_us, hv]
    rfl
  · rw [pk_un (by omega)]
    exact h a b h1 h2 (by omega)
theorem cntP_row {S : Sch} {m n i j : Nat} {c : Nat → Int32} (h : cntP S m n i j c) (hj : n ≤ j) : cntP S m n (i + 1) 0 c := fun a b h1 h2 h3 => h a b h1 h2 (by omega)
theorem cntP_all {S : Sch} {m n i : Nat} {c : Nat → Int32} (h : cntP S m n i 0 c) (hi : n ≤ i) {a b : Nat} (ha : a < n) (hb : b < n) : c (a * 12 + b) = nI (tvS S m a b) := h a b ha hb (by omega)
theorem bmax_nI {a b : Nat} (ha : a < 2 ^ 31) (hb : b < 2 ^ 31) : (if nI a < nI b then nI b else nI a) = nI (max a b) := by
  by_cases c : a < b
  · rw [if_pos (nI_lt c hb), show max a b = b by omega]
  · rw [if_neg (nI_nlt (by omega) ha), show max a b = a by omega]
theorem TabC_x {n : Nat} {v : Nat → Nat → Nat} {t N : Nat} {p : Nat → Int32} (h : TabC n v t p) (h2 : t ≤ N) (c : ¬ nI t < nI N) (hN : N < 2 ^ 31) : TabC n v N p := by
  have e : t = N := by
    rcases Nat.lt_or_ge t N with d | d
    · exact absurd (nI_lt d hN) c
    · omega
  rwa [e] at h
theorem clr_ne {s i j : Nat} (h : i ≠ j) : (clr s i).testBit j = s.testBit j := by
  rw [bclr_tb, show decide (i ≠ j) = true by simp [h], Bool.and_true]
section
variable {Γ : ex_G} {σ : ex_S} {x q a p y : Nat} {S : Sch} {T : Tol} {P : Pln} {g A : Nat → Int32}
theorem countP_ok {n m : Nat} {bv : Value} (h_bn : σ.2 q = some (.inr (.inr (8, [.ref (q + 1), .ref (q + 2), .ref (q + 3), bv, .int (nI n)])))) {wo : Nat → Int32} (h_who : σ.2 (q + 1) = some (.inl (0, 12, wo))) {co : Nat → Int32} (h_co : σ.2 (q + 2) = some (.inl (0, 144, co))) (hS0 : isS σ a S) (hwS : wS S) (haq : a + 11 ≤ q) (hn : n ≤ 12) (hwo : ∀ j, j < n → wo j = nI (wh m j)) (hwl : ∀ j, j < n → wh m j < S.1) : RetX Γ m_Benches_countPairs [.ref q, .ref a] σ (q + 2) (q + 3) none (fun τ => ∃ c : Nat → Int32, τ.2 (q + 2) = some (.inl (0, 144, c)) ∧ ∀ a b, a < n → b < n → c (a * 12 + b) = nI (tvS S m a b)) := by
  have hn16 := hwS.1
  unfold RetX
  generalize hQ : ((fun (r : Option Value) (τ : ex_S) => r = none ∧ frm σ τ (q + 2) (q + 3) ∧ (fun τ : ex_S => ∃ c : Nat → Int32, τ.2 (q + 2) = some (.inl (0, 144, c)) ∧ ∀ a b, a < n → b < n → c (a * 12 + b) = nI (tvS S m a b)) τ)) = Q
  refine Ret.start pm_152 rfl ?_
  have fr : frm σ σ (q + 2) (q + 3) := frm.rf
  have hS := hS0.frm fr (by omega)
  obtain ⟨h0, h1, h2, h3, h4, h5, h6', h7, h8, h9, h10⟩ := id hS
  refine Ev.iconst (v := 0) rfl (by decide) ?_
  refine Ev.istore_n rfl rfl rfl ?_
  have hl2 : ∀ (m2 : Nat) (i : Nat) (co2 : (Nat → Int32)), (i ≤ n ∧ cntP S m n i 0 co2) → (n - i) < m2 → ∀ τ2 : ex_S, frm σ τ2 (q + 2) (q + 3) → τ2.2 q = some (.inr (.inr (8, [(.ref (q + 1)), (.ref (q + 2)), (.ref (q + 3)), bv, (.int (nI n))]))) → τ2.2 (q + 1) = some (.inl (0, 12, wo)) → τ2.2 (q + 2) = some (.inl (0, 144, co2)) → Ev Γ 0 0 m_Benches_countPairs 0 0 2 [some (.ref q), some (.ref a), some (.int (nI i)), none, none, none] [] τ2 Q := by
    intro m2
    induction m2 with
    | zero => intro i co2 _ hm; exact absurd hm (Nat.not_lt_zero _)
    | succ m2 ih2 =>
      intro i co2 hJ2 hm2
      intro τ2 fr h_bn h_who h_co
      have hS := hS0.frm fr (by omega)
      obtain ⟨h0, h1, h2, h3, h4, h5, h6', h7, h8, h9, h10⟩ := id hS
      obtain ⟨hi0, hJ2⟩ := hJ2
      refine Ev.iload_n rfl rfl ?_
      refine Ev.aload_n rfl rfl ?_
      refine Ev.getf rfl rfl h_bn rfl ?_
      refine Ev.jge (tgt := 120) rfl (by decide) (fun c7 => ?_) (fun c7 => ?_)
      · skip
        have hin : n ≤ i := Nat.le_of_not_lt (fun h => c7 (nI_lt h (by omega)))
        refine Ev.ret rfl rfl (Nat.le_refl _) (Nat.le_refl _) ?_
        rw [← hQ]
        exact ⟨rfl, fr, co2, h_co, fun a b ha hb => cntP_all hJ2 hin ha hb⟩
      · skip
        have hil : i < n := (nI_ltI (a := i) (b := n) (by omega) (by omega)).mp c7
        have hwi := hwl i hil
        refine Ev.iconst (v := 0) rfl (by decide) ?_
        refine Ev.istore_n rfl rfl rfl ?_
        have hl12 : ∀ (m12 : Nat) (j : Nat) (co12 : (Nat → Int32)), (j ≤ n ∧ cntP S m n i j co12) → (n - j) < m12 → ∀ τ12 : ex_S, frm σ τ12 (q + 2) (q + 3) → τ12.2 q = some (.inr (.inr (8, [(.ref (q + 1)), (.ref (q + 2)), (.ref (q + 3)), bv, (.int (nI n))]))) → τ12.2 (q + 1) = some (.inl (0, 12, wo)) → τ12.2 (q + 2) = some (.inl (0, 144, co12)) → Ev Γ 0 0 m_Benches_countPairs 0 0 12 [some (.ref q), some (.ref a), some (.int (nI i)), some (.int (nI j)), none, none] [] τ12 Q := by
          intro m12
          induction m12 with
          | zero => intro j co12 _ hm; exact absurd hm (Nat.not_lt_zero _)
          | succ m12 ih12 =>
            intro j co12 hJ12 hm12
            intro τ12 fr h_bn h_who h_co
            have hS := hS0.frm fr (by omega)
            obtain ⟨h0, h1, h2, h3, h4, h5, h6', h7, h8, h9, h10⟩ := id hS
            obtain ⟨hj0, hJ12⟩ := hJ12
            refine Ev.iload_n rfl rfl ?_
            refine Ev.aload_n rfl rfl ?_
            refine Ev.getf rfl rfl h_bn rfl ?_
            refine Ev.jge (tgt := 114) rfl (by decide) (fun c17 => ?_) (fun c17 => ?_)
            · skip
              have hjn : n ≤ j := Nat.le_of_not_lt (fun h => c17 (nI_lt h (by omega)))
              refine Ev.iinc (d := 1) rfl rfl rfl (by decide) rfl ?_
              refine Ev.goto (tgt := 2) rfl (by decide) ?_
              exact (ih2 (i + 1) co12 (⟨by omega, cntP_row hJ12 hjn⟩) (by omega) τ12 fr h_bn h_who h_co).fg (gs rfl (gs rfl (gs (congrArg Value.int (nq_add (a := i) (b := 1) rfl (rfl : (1 : Int32) = nI 1)).symm) (gn (gn (gn gz))))))
            · skip
              have hjl : j < n := (nI_ltI (a := j) (b := n) (by omega) (by omega)).mp c17
              have hwj := hwl j hjl
              refine Ev.aload_n rfl rfl ?_
              refine Ev.getf rfl rfl h0 rfl ?_
              refine Ev.aload_n rfl rfl ?_
              refine Ev.getf rfl rfl h_bn rfl ?_
              refine Ev.iload_n rfl rfl ?_
              refine Ev.ialdN (k := i) rfl h_who rfl ⟨(by omega), by decide⟩ ?_
              rw [hwo i (by omega)]
              refine Ev.ialdN (k := wh m i) rfl h1 rfl ⟨(by omega), by decide⟩ ?_
              refine Ev.aload_n rfl rfl ?_
              refine Ev.getf rfl rfl h0 rfl ?_
              refine Ev.aload_n rfl rfl ?_
              refine Ev.getf rfl rfl h_bn rfl ?_
              refine Ev.iload_n rfl rfl ?_
              refine Ev.ialdN (k := j) rfl h_who rfl ⟨(by omega), by decide⟩ ?_
              rw [hwo j (by omega)]
              refine Ev.ialdN (k := wh m j) rfl h1 rfl ⟨(by omega), by decide⟩ ?_
              refine Ev.isub rfl ?_
              refine Ev.mabs rfl rfl rfl (Nat.le_of_ble_eq_true rfl) ⟨(Nat.le_refl _), (Nat.le_refl _)⟩ ?_
              refine Ev.istore rfl rfl rfl ?_
              refine Ev.iload rfl rfl ?_
              refine Ev.iconst (v := 1) rfl (by decide) ?_
              refine Ev.jne (tgt := 58) rfl (by decide) (fun c51 => ?_) (fun c51 => ?_)
              · skip
                refine Ev.iconst (v := 0) rfl (by decide) ?_
                refine Ev.aload_n rfl rfl ?_
                refine Ev.getf rfl rfl h0 rfl ?_
                refine Ev.aload_n rfl rfl ?_
                refine Ev.getf rfl rfl h_bn rfl ?_
                refine Ev.iload_n rfl rfl ?_
                refine Ev.ialdN (k := i) rfl h_who rfl ⟨(by omega), by decide⟩ ?_
                rw [hwo i (by omega)]
                refine Ev.ialdN (k := wh m i) rfl h4 rfl ⟨(by omega), by decide⟩ ?_
                refine Ev.aload_n rfl rfl ?_
                refine Ev.getf rfl rfl h_bn rfl ?_
                refine Ev.iload_n rfl rfl ?_
                refine Ev.ialdN (k := j) rfl h_who rfl ⟨(by omega), by decide⟩ ?_
                rw [hwo j (by omega)]
                refine Ev.jne (tgt := 83) rfl (by decide) (fun c76 => ?_) (fun c76 => ?_)
                · skip
                  refine Ev.iconst (v := 0) rfl (by decide) ?_
                  refine Ev.iadd rfl ?_
                  refine Ev.istore rfl rfl rfl ?_
                  refine Ev.aload_n rfl rfl ?_
                  refine Ev.getf rfl rfl h_bn rfl ?_
                  refine Ev.iload_n rfl rfl ?_
                  refine Ev.bipush (v := 12) rfl (by decide) ?_
                  refine Ev.imul rfl ?_
                  refine Ev.iload_n rfl rfl ?_
                  refine Ev.iadd rfl ?_
                  refine Ev.iload rfl rfl ?_
                  refine Ev.aload_n rfl rfl ?_
                  refine Ev.getf rfl rfl h0 rfl ?_
                  refine Ev.bipush (v := 9) rfl (by decide) ?_
                  refine Ev.ialdN (k := 9) rfl h10 (rfl : (9 : Int32) = nI 9) ⟨(by omega), by decide⟩ ?_
                  refine Ev.imul rfl ?_
                  refine Ev.iastE (k := i * 12 + j) rfl h_co (nq_add (a := i * 12) (b := j) (nq_mul (a := i) (b := 12) rfl (rfl : (12 : Int32) = nI 12)) rfl) ⟨(by omega), by decide⟩ (fun τ1 f1 h_co => ?_)
                  have h_bn := frm.cell f1 h_bn (by omega)
                  have h_who := frm.cell f1 h_who (by omega)
                  have fr := fr.step f1 (by omega) (by omega)
                  have hS := hS0.frm fr (by omega)
                  obtain ⟨h0, h1, h2, h3, h4, h5, h6', h7, h8, h9, h10⟩ := id hS
                  refine Ev.iinc (d := 1) rfl rfl rfl (by decide) rfl ?_
                  refine Ev.goto (tgt := 12) rfl (by decide) ?_
                  exact (ih12 (j + 1) (upd co12 (i * 12 + j) (((0 : Int32) + (0 : Int32)) * ((S.2.2 9) 9))) (⟨by omega, cntP_up hJ12 hn hil hjl (tv_c hwS (p := 0) (q := 0) (m := 0) (k := 0) rfl rfl (near_n (fun h => c51 ((near_c hwS hwi hwj).mpr h))) (mate_n c76))⟩) (by omega) τ1 fr h_bn h_who h_co).fg (gs rfl (gs rfl (gs rfl (gs (congrArg Value.int (nq_add (a := j) (b := 1) rfl (rfl : (1 : Int32) = nI 1)).symm) (gn (gn gz))))))
                · skip
                  refine Ev.iconst (v := 2) rfl (by decide) ?_
                  refine Ev.goto (tgt := 84) rfl (by decide) ?_
                  refine Ev.iadd rfl ?_
                  refine Ev.istore rfl rfl rfl ?_
                  refine Ev.aload_n rfl rfl ?_
                  refine Ev.getf rfl rfl h_bn rfl ?_
                  refine Ev.iload_n rfl rfl ?_
                  refine Ev.bipush (v := 12) rfl (by decide) ?_
                  refine Ev.imul rfl ?_
                  refine Ev.iload_n rfl rfl ?_
                  refine Ev.iadd rfl ?_
                  refine Ev.iload rfl rfl ?_
                  refine Ev.aload_n rfl rfl ?_
                  refine Ev.getf rfl rfl h0 rfl ?_
                  refine Ev.bipush (v := 9) rfl (by decide) ?_
                  refine Ev.ialdN (k := 9) rfl h10 (rfl : (9 : Int32) = nI 9) ⟨(by omega), by decide⟩ ?_
                  refine Ev.imul rfl ?_
                  refine Ev.iastE (k := i * 12 + j) rfl h_co (nq_add (a := i * 12) (b := j) (nq_mul (a := i) (b := 12) rfl (rfl : (12 : Int32) = nI 12)) rfl) ⟨(by omega), by decide⟩ (fun τ2 f1 h_co => ?_)
                  have h_bn := frm.cell f1 h_bn (by omega)
                  have h_who := frm.cell f1 h_who (by omega)
                  have fr := fr.step f1 (by omega) (by omega)
                  have hS := hS0.frm fr (by omega)
                  obtain ⟨h0, h1, h2, h3, h4, h5, h6', h7, h8, h9, h10⟩ := id hS
                  refine Ev.iinc (d := 1) rfl rfl rfl (by decide) rfl ?_
                  refine Ev.goto (tgt := 12) rfl (by decide) ?_
                  exact (ih12 (j + 1) (upd co12 (i * 12 + j) (((0 : Int32) + (2 : Int32)) * ((S.2.2 9) 9))) (⟨by omega, cntP_up hJ12 hn hil hjl (tv_c hwS (p := 0) (q := 2) (m := 0) (k := 2) rfl rfl (near_n (fun h => c51 ((near_c hwS hwi hwj).mpr h))) (mate_y c76))⟩) (by omega) τ2 fr h_bn h_who h_co).fg (gs rfl (gs rfl (gs rfl (gs (congrArg Value.int (nq_add (a := j) (b := 1) rfl (rfl : (1 : Int32) = nI 1)).symm) (gn (gn gz))))))
              · skip
                refine Ev.iconst (v := 1) rfl (by decide) ?_
                refine Ev.goto (tgt := 59) rfl (by decide) ?_
                refine Ev.aload_n rfl rfl ?_
                refine Ev.getf rfl rfl h0 rfl ?_
                refine Ev.aload_n rfl rfl ?_
                refine Ev.getf rfl rfl h_bn rfl ?_
                refine Ev.iload_n rfl rfl ?_
                refine Ev.ialdN (k := i) rfl h_who rfl ⟨(by omega), by decide⟩ ?_
                rw [hwo i (by omega)]
                refine Ev.ialdN (k := wh m i) rfl h4 rfl ⟨(by omega), by decide⟩ ?_
                refine Ev.aload_n rfl rfl ?_
                refine Ev.getf rfl rfl h_bn rfl ?_
                refine Ev.iload_n rfl rfl ?_
                refine Ev.ialdN (k := j) rfl h_who rfl ⟨(by omega), by decide⟩ ?_
                rw [hwo j (by omega)]
                refine Ev.jne (tgt := 83) rfl (by decide) (fun c76 => ?_) (fun c76 => ?_)
                · skip
                  refine Ev.iconst (v := 0) rfl (by decide) ?_
                  refine Ev.iadd rfl ?_
                  refine Ev.istore rfl rfl rfl ?_
                  refine Ev.aload_n rfl rfl ?_
                  refine Ev.getf rfl rfl h_bn rfl ?_
                  refine Ev.iload_n rfl rfl ?_
                  refine Ev.bipush (v := 12) rfl (by decide) ?_
                  refine Ev.imul rfl ?_
                  refine Ev.iload_n rfl rfl ?_
                  refine Ev.iadd rfl ?_
                  refine Ev.iload rfl rfl ?_
                  refine Ev.aload_n rfl rfl ?_
                  refine Ev.getf rfl rfl h0 rfl ?_
                  refine Ev.bipush (v := 9) rfl (by decide) ?_
                  refine Ev.ialdN (k := 9) rfl h10 (rfl : (9 : Int32) = nI 9) ⟨(by omega), by decide⟩ ?_
                  refine Ev.imul rfl ?_
                  refine Ev.iastE (k := i * 12 + j) rfl h_co (nq_add (a := i * 12) (b := j) (nq_mul (a := i) (b := 12) rfl (rfl : (12 : Int32) = nI 12)) rfl) ⟨(by omega), by decide⟩ (fun τ3 f1 h_co => ?_)
                  have h_bn := frm.cell f1 h_bn (by omega)
                  have h_who := frm.cell f1 h_who (by omega)
                  have fr := fr.step f1 (by omega) (by omega)
                  have hS := hS0.frm fr (by omega)
                  obtain ⟨h0, h1, h2, h3, h4, h5, h6', h7, h8, h9, h10⟩ := id hS
                  refine Ev.iinc (d := 1) rfl rfl rfl (by decide) rfl ?_
                  refine Ev.goto (tgt := 12) rfl (by decide) ?_
                  exact (ih12 (j + 1) (upd co12 (i * 12 + j) (((1 : Int32) + (0 : Int32)) * ((S.2.2 9) 9))) (⟨by omega, cntP_up hJ12 hn hil hjl (tv_c hwS (p := 1) (q := 0) (m := 1) (k := 0) rfl rfl (near_y ((near_c hwS hwi hwj).mp c51)) (mate_n c76))⟩) (by omega) τ3 fr h_bn h_who h_co).fg (gs rfl (gs rfl (gs rfl (gs (congrArg Value.int (nq_add (a := j) (b := 1) rfl (rfl : (1 : Int32) = nI 1)).symm) (gn (gn gz))))))
                · skip
                  refine Ev.iconst (v := 2) rfl (by decide) ?_
                  refine Ev.goto (tgt := 84) rfl (by decide) ?_
                  refine Ev.iadd rfl ?_
                  refine Ev.istore rfl rfl rfl ?_
                  refine Ev.aload_n rfl rfl ?_
                  refine Ev.getf rfl rfl h_bn rfl ?_
                  refine Ev.iload_n rfl rfl ?_
                  refine Ev.bipush (v := 12) rfl (by decide) ?_
                  refine Ev.imul rfl ?_
                  refine Ev.iload_n rfl rfl ?_
                  refine Ev.iadd rfl ?_
                  refine Ev.iload rfl rfl ?_
                  refine Ev.aload_n rfl rfl ?_
                  refine Ev.getf rfl rfl h0 rfl ?_
                  refine Ev.bipush (v := 9) rfl (by decide) ?_
                  refine Ev.ialdN (k := 9) rfl h10 (rfl : (9 : Int32) = nI 9) ⟨(by omega), by decide⟩ ?_
                  refine Ev.imul rfl ?_
                  refine Ev.iastE (k := i * 12 + j) rfl h_co (nq_add (a := i * 12) (b := j) (nq_mul (a := i) (b := 12) rfl (rfl : (12 : Int32) = nI 12)) rfl) ⟨(by omega), by decide⟩ (fun τ4 f1 h_co => ?_)
                  have h_bn := frm.cell f1 h_bn (by omega)
                  have h_who := frm.cell f1 h_who (by omega)
                  have fr := fr.step f1 (by omega) (by omega)
                  have hS := hS0.frm fr (by omega)
                  obtain ⟨h0, h1, h2, h3, h4, h5, h6', h7, h8, h9, h10⟩ := id hS
                  refine Ev.iinc (d := 1) rfl rfl rfl (by decide) rfl ?_
                  refine Ev.goto (tgt := 12) rfl (by decide) ?_
                  exact (ih12 (j + 1) (upd co12 (i * 12 + j) (((1 : Int32) + (2 : Int32)) * ((S.2.2 9) 9))) (⟨by omega, cntP_up hJ12 hn hil hjl (tv_c hwS (p := 1) (q := 2) (m := 1) (k := 2) rfl rfl (near_y ((near_c hwS hwi hwj).mp c51)) (mate_y c76))⟩) (by omega) τ4 fr h_bn h_who h_co).fg (gs rfl (gs rfl (gs rfl (gs (congrArg Value.int (nq_add (a := j) (b := 1) rfl (rfl : (1 : Int32) = nI 1)).symm) (gn (gn gz))))))
        exact (hl12 _ 0 co2 (⟨Nat.zero_le _, hJ2⟩) (Nat.lt_succ_self _) τ2 fr h_bn h_who h_co).fg (gs rfl (gs rfl (gs rfl (gs (congrArg Value.int (rfl : (0 : Int32) = nI 0).symm) (gn (gn gz))))))
  exact (hl2 _ 0 co (⟨Nat.zero_le _, cntP_0⟩) (Nat.lt_succ_self _) σ fr h_bn h_who h_co).fg (gs rfl (gs rfl (gs (congrArg Value.int (rfl : (0 : Int32) = nI 0).symm) (gn (gn (gn gz))))))
theorem fillT_ev {RC RS cs sl n : Nat} {v : Nat → Nat → Nat} {bv : Value} {Q : Option Value → ex_S → Prop} (hcs : cs ≤ RC) (hsl : sl ≤ RS) {b : Nat} {be : Nat → Int32} (h_be : σ.2 b = some (.inl (0, 4096, be))) (hbq : q + 4 ≤ b) (h_bn : σ.2 q = some (.inr (.inr (8, [.ref (q + 1), .ref (q + 2), .ref (q + 3), .ref b, .int (nI n)])))) {co : Nat → Int32} (h_co : σ.2 (q + 2) = some (.inl (0, 144, co))) (hn : n ≤ 12) (hco : ∀ a b, a < n → b < n → co (a * 12 + b) = nI (v a b)) (hv : ∀ a b, v a b ≤ 297) (hq : ∀ τ be1, frm σ τ b (b + 1) → τ.2 b = some (.inl (0, 4096, be1)) → TabC n v (2 ^ n) be1 → Q none τ) : Ev Γ RC RS m_Benches_fillTable cs sl 16 [some (.ref q), none, none, none, none, none] [] σ Q := by
  have fr : frm σ σ b (b + 1) := frm.rf
  refine Ev.aload_n rfl rfl ?_
  refine Ev.getf rfl rfl h_bn rfl ?_
  refine Ev.iconst (v := 0) rfl (by decide) ?_
  refine Ev.iconst (v := 0) rfl (by decide) ?_
  refine Ev.iastE (k := 0) rfl h_be (rfl : (0 : Int32) = nI 0) ⟨(by omega), by decide⟩ (fun τ1 f1 h_be => ?_)
  have h_bn := frm.cell f1 h_bn (by omega)
  have h_co := frm.cell f1 h_co (by omega)
  have fr := fr.step f1 (by omega) (by omega)
  refine Ev.iconst (v := 1) rfl (by decide) ?_
  refine Ev.istore_n rfl rfl rfl ?_
  have hl25 : ∀ (m25 : Nat) (t : Nat) (be25 : (Nat → Int32)), (0 < t ∧ t ≤ 2 ^ n ∧ TabC n v t be25) → (2 ^ n - t) < m25 → ∀ τ25 : ex_S, frm σ τ25 b (b + 1) → τ25.2 q = some (.inr (.inr (8, [(.ref (q + 1)), (.ref (q + 2)), (.ref (q + 3)), (.ref b), (.int (nI n))]))) → τ25.2 (q + 2) = some (.inl (0, 144, co)) → τ25.2 b = some (.inl (0, 4096, be25)) → Ev Γ RC RS m_Benches_fillTable cs sl 25 [some (.ref q), some (.int (nI t)), none, none, none, none] [] τ25 Q := by
    intro m25
    induction m25 with
    | zero => intro t be25 _ hm; exact absurd hm (Nat.not_lt_zero _)
    | succ m25 ih25 =>
      intro t be25 hJ25 hm25
      intro τ25 fr h_bn h_co h_be
      obtain ⟨ht0, ht2, hTab⟩ := hJ25
      have hp12 : 2 ^ n ≤ 4096 := Nat.pow_le_pow_right (n := 2) (j := 12) (by decide) (by omega)
      refine Ev.iload_n rfl rfl ?_
      refine Ev.iconst (v := 1) rfl (by decide) ?_
      refine Ev.aload_n rfl rfl ?_
      refine Ev.getf rfl rfl h_bn rfl ?_
      refine Ev.ishl rfl ?_
      rw [show (1 : Int32) <<< ((nI n) &&& 31) = nI (2 ^ n) from (nq_shl rfl (by omega))]
      refine Ev.jge (tgt := 130) rfl (by decide) (fun c32 => ?_) (fun c32 => ?_)
      · skip
        refine Ev.ret rfl rfl (by assumption) (by assumption) ?_
        exact hq _ be25 fr h_be (TabC_x hTab ht2 c32 (by omega))
      · skip
        have htl : t < 2 ^ n := (nI_ltI (a := t) (b := 2 ^ n) (by omega) (by omega)).mp c32
        have hp12 : 2 ^ n ≤ 4096 := Nat.pow_le_pow_right (n := 2) (j := 12) (by decide) (by omega)
        obtain ⟨f, hlo, hfn, hf12⟩ := ntz_low ht0 (by omega)
        have hfl : f < n := low_lt hlo htl
        have hcl := clr_lt hlo.1
        have hvb : ∀ j, bvl n v (vf be25) t f j ≤ 297 * t := fun j => bvl_le hv hlo (fun q hq => hTab.ok hq)
        refine Ev.iload_n rfl rfl ?_
        refine Ev.cS1 rfl rfl rfl (by decide) ⟨(by assumption), (by assumption)⟩ (ntz_ok _) ?_
        rw [hfn]
        refine Ev.istore_n rfl rfl rfl ?_
        refine Ev.iload_n rfl rfl ?_
        refine Ev.iload_n rfl rfl ?_
        refine Ev.iconst (v := 1) rfl (by decide) ?_
        refine Ev.isub rfl ?_
        refine Ev.iand rfl ?_
        rw [show (nI t) &&& ((nI t) - (1 : Int32)) = nI (clr t f) from (sub1_nI hlo (by omega))]
        refine Ev.istore_n rfl rfl rfl ?_
        refine Ev.aload_n rfl rfl ?_
        refine Ev.getf rfl rfl h_bn rfl ?_
        refine Ev.iload_n rfl rfl ?_
        refine Ev.ialdN (k := clr t f) rfl h_be rfl ⟨(by omega), by decide⟩ ?_
        rw [(hTab.ok (s := clr t f) (by omega)).1]
        refine Ev.istore rfl rfl rfl ?_
        refine Ev.iload_n rfl rfl ?_
        refine Ev.iconst (v := 1) rfl (by decide) ?_
        refine Ev.iadd rfl ?_
        refine Ev.istore rfl rfl rfl ?_
        have hl59 : ∀ (m59 : Nat) (j : Nat) (M : Nat), (f < j ∧ j ≤ n ∧ cst n v (vf be25) t f j M) → (n - j) < m59 → ∀ τ59 : ex_S, frm σ τ59 b (b + 1) → τ59.2 q = some (.inr (.inr (8, [(.ref (q + 1)), (.ref (q + 2)), (.ref (q + 3)), (.ref b), (.int (nI n))]))) → τ59.2 (q + 2) = some (.inl (0, 144, co)) → τ59.2 b = some (.inl (0, 4096, be25)) → Ev Γ RC RS m_Benches_fillTable cs sl 59 [some (.ref q), some (.int (nI t)), some (.int (nI f)), some (.int (nI (clr t f))), some (.int (nI M)), some (.int (nI j))] [] τ59 Q := by
          intro m59
          induction m59 with
          | zero => intro j M _ hm; exact absurd hm (Nat.not_lt_zero _)
          | succ m59 ih59 =>
            intro j M hJ59 hm59
            intro τ59 fr h_bn h_co h_be
            obtain ⟨hfj, hjn0, hcst⟩ := hJ59
            have hMb := cst_le hcst hvb
            refine Ev.iload rfl rfl ?_
            refine Ev.aload_n rfl rfl ?_
            refine Ev.getf rfl rfl h_bn rfl ?_
            refine Ev.jge (tgt := 116) rfl (by decide) (fun c65 => ?_) (fun c65 => ?_)
            · skip
              have hjn : n ≤ j := Nat.le_of_not_lt (fun h => c65 (nI_lt h (by omega)))
              refine Ev.aload_n rfl rfl ?_
              refine Ev.getf rfl rfl h_bn rfl ?_
              refine Ev.iload_n rfl rfl ?_
              refine Ev.iload rfl rfl ?_
              refine Ev.iastE (k := t) rfl h_be rfl ⟨(by omega), by decide⟩ (fun τ2 f1 h_be => ?_)
              have h_bn := frm.cell f1 h_bn (by omega)
              have h_co := frm.cell f1 h_co (by omega)
              have fr := fr.step f1 (by omega) (by omega)
              refine Ev.iinc (d := 1) rfl rfl rfl (by decide) rfl ?_
              refine Ev.goto (tgt := 25) rfl (by decide) ?_
              exact (ih25 (t + 1) (upd be25 t (nI M)) (⟨by omega, by omega, TabC_up hTab ht0 (by omega) (cst_le hcst hvb) (cst_end hcst hjn hlo hfl)⟩) (by omega) τ2 fr h_bn h_co h_be).fg (gs rfl (gs (congrArg Value.int (nq_add (a := t) (b := 1) rfl (rfl : (1 : Int32) = nI 1)).symm) (gn (gn (gn (gn gz))))))
            · skip
              have hjl : j < n := (nI_ltI (a := j) (b := n) (by omega) (by omega)).mp c65
              refine Ev.iload_n rfl rfl ?_
              refine Ev.iload rfl rfl ?_
              refine Ev.ishr rfl ?_
              refine Ev.iconst (v := 1) rfl (by decide) ?_
              refine Ev.iand rfl ?_
              refine Ev.zeq (tgt := 110) rfl (by decide) (fun c74 => ?_) (fun c74 => ?_)
              · skip
                skip
                refine Ev.iinc (d := 1) rfl rfl rfl (by decide) rfl ?_
                refine Ev.goto (tgt := 59) rfl (by decide) ?_
                exact (ih59 (j + 1) M (⟨by omega, by omega, cst_skip hcst (by rw [← clr_ne (s := t) (i := f) (j := j) (by omega)]; exact bit_n (m := clr t f) (k := j) (by omega) (by omega) c74)⟩) (by omega) τ59 fr h_bn h_co h_be).fg (gs rfl (gs rfl (gs rfl (gs rfl (gs rfl (gs (congrArg Value.int (nq_add (a := j) (b := 1) rfl (rfl : (1 : Int32) = nI 1)).symm) gz))))))
              · skip
                have hjb0 := bit_y (m := clr t f) (k := j) (by omega) (by omega) c74
                have hjb : t.testBit j = true := by rwa [clr_ne (by omega)] at hjb0
                have hcl2 := clr_le (clr t f) j
                have hX := bvl_i (n := n) (v := v) (B := vf be25) (s := t) (f := f) hjl
                have hvj := hvb j
                have hvf := hv f j
                refine Ev.iload rfl rfl ?_
                refine Ev.aload_n rfl rfl ?_
                refine Ev.getf rfl rfl h_bn rfl ?_
                refine Ev.iload_n rfl rfl ?_
                refine Ev.bipush (v := 12) rfl (by decide) ?_
                refine Ev.imul rfl ?_
                refine Ev.iload rfl rfl ?_
                refine Ev.iadd rfl ?_
                refine Ev.ialdN (k := f * 12 + j) rfl h_co (nq_add (a := f * 12) (b := j) (nq_mul (a := f) (b := 12) rfl (rfl : (12 : Int32) = nI 12)) rfl) ⟨(by omega), by decide⟩ ?_
                rw [hco f j (by omega) (by omega)]
                refine Ev.aload_n rfl rfl ?_
                refine Ev.getf rfl rfl h_bn rfl ?_
                refine Ev.iload_n rfl rfl ?_
                refine Ev.iconst (v := 1) rfl (by decide) ?_
                refine Ev.iload rfl rfl ?_
                refine Ev.ishl rfl ?_
                refine Ev.iconst (v := (-1)) rfl (by decide) ?_
                refine Ev.ixor rfl ?_
                refine Ev.iand rfl ?_
                rw [show (nI (clr t f)) &&& (((1 : Int32) <<< ((nI j) &&& 31)) ^^^ (-1 : Int32)) = nI (clr (clr t f) j) from (bclr_nI (s := clr t f) (f := j) (by omega) (by omega))]
                refine Ev.ialdN (k := clr (clr t f) j) rfl h_be rfl ⟨(by omega), by decide⟩ ?_
                rw [(hTab.ok (s := clr (clr t f) j) (by omega)).1]
                refine Ev.iadd rfl ?_
                rw [show (nI (v f j)) + (nI (vf be25 (clr (clr t f) j))) = nI (v f j + (vf be25 (clr (clr t f) j))) from (nq_add (a := v f j) (b := vf be25 (clr (clr t f) j)) rfl rfl)]
                refine Ev.mmax rfl rfl rfl (Nat.le_of_ble_eq_true rfl) ⟨(by assumption), (by assumption)⟩ ?_
                rw [bmax_nI (a := M) (b := v f j + (vf be25 (clr (clr t f) j))) (by omega) (by omega)]
                refine Ev.istore rfl rfl rfl ?_
                skip
                refine Ev.iinc (d := 1) rfl rfl rfl (by decide) rfl ?_
                refine Ev.goto (tgt := 59) rfl (by decide) ?_
                exact (ih59 (j + 1) (max M (v f j + (vf be25 (clr (clr t f) j)))) (⟨by omega, by omega, cst_up hcst hjb hfj hjl (by rw [← hX]; exact Nat.add_comm _ _)⟩) (by omega) τ59 fr h_bn h_co h_be).fg (gs rfl (gs rfl (gs rfl (gs rfl (gs rfl (gs (congrArg Value.int (nq_add (a := j) (b := 1) rfl (rfl : (1 : Int32) = nI 1)).symm) gz))))))
        exact (hl59 _ (f + 1) (vf be25 (clr t f)) (⟨Nat.lt_succ_self _, by omega, by rw [bvl_n (n := n) (v := v) (B := vf be25) (s := t) (f := f) rfl]; exact cst_0⟩) (Nat.lt_succ_self _) τ25 fr h_bn h_co h_be).fg (gs rfl (gs rfl (gs rfl (gs rfl (gs rfl (gs (congrArg Value.int (nq_add (a := f) (b := 1) rfl (rfl : (1 : Int32) = nI 1)).symm) gz))))))
  exact (hl25 _ 1 (upd be 0 (0 : Int32)) (⟨Nat.lt_succ_self _, Nat.two_pow_pos n, TabC_0 pk_us⟩) (Nat.lt_succ_self _) τ1 fr h_bn h_co h_be).fg (gs rfl (gs (congrArg Value.int (rfl : (1 : Int32) = nI 1).symm) (gn (gn (gn (gn gz))))))
theorem bnx_0 {n : Nat} {v : Nat → Nat → Nat} {B : Nat → Nat} {F i j s : Nat} {w : Nat → Nat} {ne : Nat → Int32} (h : pst n v B F w j (bnx n s i n) ne) : pst n v B F w j (clr s i) ne := by
  unfold bnx at h
  rwa [if_pos rfl] at h
theorem bnx_1 {n : Nat} {v : Nat → Nat → Nat} {B : Nat → Nat} {F i j s q : Nat} {w : Nat → Nat} {ne : Nat → Int32} (hq : q ≠ n) (h : pst n v B F w j (bnx n s i q) ne) : pst n v B F w j (clr (clr s i) q) ne := by
  unfold bnx at h
  rwa [if_neg hq] at h
theorem bwalk_ok {n m : Nat} {v : Nat → Nat → Nat} {b : Nat} {be : Nat → Int32} (h_be : σ.2 b = some (.inl (0, 4096, be))) (hbq : q + 4 ≤ b) (h_bn : σ.2 q = some (.inr (.inr (8, [.ref (q + 1), .ref (q + 2), .ref (q + 3), .ref b, .int (nI n)])))) {wo : Nat → Int32} (h_who : σ.2 (q + 1) = some (.inl (0, 12, wo))) {co : Nat → Int32} (h_co : σ.2 (q + 2) = some (.inl (0, 144, co))) {ne : Nat → Int32} (h_ne : σ.2 (q + 3) = some (.inl (0, 16, ne))) (hn : n ≤ 12) (hwo : ∀ j, j < n → wo j = nI (wh m j)) (hwl : ∀ j, j < n → wh m j < 16) (hinj : ∀ a b, a < n → b < n → wh m a = wh m b → a = b) (hco : ∀ a b, a < n → b < n → co (a * 12 + b) = nI (v a b)) (hv : ∀ a b, v a b ≤ 297) (hTab : TabC n v (2 ^ n) be) : RetX Γ m_Benches_walk [.ref q] σ (q + 3) (q + 4) none (fun τ => ∃ ne1 : Nat → Int32, τ.2 (q + 3) = some (.inl (0, 16, ne1)) ∧ ∀ p, p < n → ∃ r, Prt n v (vf be) (2 ^ n - 1) p r ∧ (r = n ∧ ne1 (wh m p) = -1 ∨ r < n ∧ ne1 (wh m p) = nI (wh m r))) := by
  have hp12 : 2 ^ n ≤ 4096 := Nat.pow_le_pow_right (n := 2) (j := 12) (by decide) (by omega)
  have hp0 := Nat.two_pow_pos n
  unfold RetX
  generalize hQ : ((fun (r : Option Value) (τ : ex_S) => r = none ∧ frm σ τ (q + 3) (q + 4) ∧ (fun τ : ex_S => ∃ ne1 : Nat → Int32, τ.2 (q + 3) = some (.inl (0, 16, ne1)) ∧ ∀ p, p < n → ∃ r, Prt n v (vf be) (2 ^ n - 1) p r ∧ (r = n ∧ ne1 (wh m p) = -1 ∨ r < n ∧ ne1 (wh m p) = nI (wh m r))) τ)) = Q
  refine Ret.start pm_154 rfl ?_
  have fr : frm σ σ (q + 3) (q + 4) := frm.rf
  refine Ev.iconst (v := 1) rfl (by decide) ?_
  refine Ev.aload_n rfl rfl ?_
  refine Ev.getf rfl rfl h_bn rfl ?_
  refine Ev.ishl rfl ?_
  rw [show (1 : Int32) <<< ((nI n) &&& 31) = nI (2 ^ n) from (nq_shl rfl (by omega))]
  refine Ev.iconst (v := 1) rfl (by decide) ?_
  refine Ev.isub rfl ?_
  rw [show (nI (2 ^ n)) - (1 : Int32) = nI ((2 ^ n) - 1) from (nq_sub (a := 2 ^ n) (b := 1) rfl (rfl : (1 : Int32) = nI 1) (by omega))]
  refine Ev.istore_n rfl rfl rfl ?_
  refine Ev.iconst (v := 0) rfl (by decide) ?_
  refine Ev.istore_n rfl rfl rfl ?_
  have hl11 : ∀ (m11 : Nat) (s : Nat) (i : Nat) (ne11 : (Nat → Int32)), (i ≤ n ∧ pst n v (vf be) (2 ^ n - 1) (wh m) i s ne11) → (n - i) < m11 → ∀ τ11 : ex_S, frm σ τ11 (q + 3) (q + 4) → τ11.2 q = some (.inr (.inr (8, [(.ref (q + 1)), (.ref (q + 2)), (.ref (q + 3)), (.ref b), (.int (nI n))]))) → τ11.2 (q + 1) = some (.inl (0, 12, wo)) → τ11.2 (q + 2) = some (.inl (0, 144, co)) → τ11.2 (q + 3) = some (.inl (0, 16, ne11)) → τ11.2 b = some (.inl (0, 4096, be)) → Ev Γ 0 0 m_Benches_walk 0 0 11 [some (.ref q), some (.int (nI s)), some (.int (nI i)), none, none, none, none] [] τ11 Q := by
    intro m11
    induction m11 with
    | zero => intro s i ne11 _ hm; exact absurd hm (Nat.not_lt_zero _)
    | succ m11 ih11 =>
      intro s i ne11 hJ11 hm11
      intro τ11 fr h_bn h_who h_co h_ne h_be
      obtain ⟨hi0, hpst⟩ := hJ11
      have hsl : s < 2 ^ n := hpst.1
      refine Ev.iload_n rfl rfl ?_
      refine Ev.aload_n rfl rfl ?_
      refine Ev.getf rfl rfl h_bn rfl ?_
      refine Ev.jge (tgt := 198) rfl (by decide) (fun c16 => ?_) (fun c16 => ?_)
      · skip
        have hin : n ≤ i := Nat.le_of_not_lt (fun h => c16 (nI_lt h (by omega)))
        refine Ev.ret rfl rfl (Nat.le_refl _) (Nat.le_refl _) ?_
        rw [← hQ]
        exact ⟨rfl, fr, ne11, h_ne, fun p hp => pst_end hpst hin hp⟩
      · skip
        have hil : i < n := (nI_ltI (a := i) (b := n) (by omega) (by omega)).mp c16
        refine Ev.iload_n rfl rfl ?_
        refine Ev.iload_n rfl rfl ?_
        refine Ev.ishr rfl ?_
        refine Ev.iconst (v := 1) rfl (by decide) ?_
        refine Ev.iand rfl ?_
        refine Ev.zne (tgt := 30) rfl (by decide) (fun c24 => ?_) (fun c24 => ?_)
        · skip
          have hib := bit_y (m := s) (k := i) (by omega) (by omega) c24
          have hlo := pst_low hpst hib
          have hcl := clr_lt hlo.1
          have hs0 := low_pos hlo
          have hBl := (hTab.2 s hs0 (by omega)).2
          refine Ev.iload_n rfl rfl ?_
          refine Ev.iconst (v := 1) rfl (by decide) ?_
          refine Ev.iload_n rfl rfl ?_
          refine Ev.ishl rfl ?_
          refine Ev.iconst (v := (-1)) rfl (by decide) ?_
          refine Ev.ixor rfl ?_
          refine Ev.iand rfl ?_
          rw [show (nI s) &&& (((1 : Int32) <<< ((nI i) &&& 31)) ^^^ (-1 : Int32)) = nI (clr s i) from (bclr_nI (s := s) (f := i) (by omega) (by omega))]
          refine Ev.istore_n rfl rfl rfl ?_
          refine Ev.iconst (v := (-1)) rfl (by decide) ?_
          refine Ev.istore rfl rfl rfl ?_
          refine Ev.iload_n rfl rfl ?_
          refine Ev.iconst (v := 1) rfl (by decide) ?_
          refine Ev.iadd rfl ?_
          refine Ev.istore rfl rfl rfl ?_
          have hl46 : ∀ (m46 : Nat) (j : Nat) (b4 : Int32), (i < j ∧ j ≤ n ∧ wst n v (vf be) s i j b4) → (n - j) < m46 → ∀ τ46 : ex_S, frm σ τ46 (q + 3) (q + 4) → τ46.2 q = some (.inr (.inr (8, [(.ref (q + 1)), (.ref (q + 2)), (.ref (q + 3)), (.ref b), (.int (nI n))]))) → τ46.2 (q + 1) = some (.inl (0, 12, wo)) → τ46.2 (q + 2) = some (.inl (0, 144, co)) → τ46.2 (q + 3) = some (.inl (0, 16, ne11)) → τ46.2 b = some (.inl (0, 4096, be)) → Ev Γ 0 0 m_Benches_walk 0 0 46 [some (.ref q), some (.int (nI s)), some (.int (nI i)), some (.int (nI (clr s i))), some (.int b4), some (.int (nI j)), none] [] τ46 Q := by
            intro m46
            induction m46 with
            | zero => intro j b4 _ hm; exact absurd hm (Nat.not_lt_zero _)
            | succ m46 ih46 =>
              intro j b4 hJ46 hm46
              intro τ46 fr h_bn h_who h_co h_ne h_be
              obtain ⟨hij, hj0, hwst⟩ := hJ46
              refine Ev.iload rfl rfl ?_
              refine Ev.aload_n rfl rfl ?_
              refine Ev.getf rfl rfl h_bn rfl ?_
              refine Ev.jge (tgt := 127) rfl (by decide) (fun c52 => ?_) (fun c52 => ?_)
              · skip
                have hend := wst_end hwst (by first | exact Or.inl (Nat.le_of_not_lt (fun h => c52 (nI_lt h (by omega)))) | exact Or.inr c58) hBl hlo
                rcases hend with ⟨hb1, hLW⟩ | ⟨w, hb1, hwn, hiw, hLW⟩
                · subst hb1
                  refine Ev.aload_n rfl rfl ?_
                  refine Ev.getf rfl rfl h_bn rfl ?_
                  refine Ev.aload_n rfl rfl ?_
                  refine Ev.getf rfl rfl h_bn rfl ?_
                  refine Ev.iload_n rfl rfl ?_
                  refine Ev.ialdN (k := i) rfl h_who rfl ⟨(by omega), by decide⟩ ?_
                  rw [hwo i (by omega)]
                  have hw_i := hwl i (by omega)
                  refine Ev.iconst (v := (-1)) rfl (by decide) ?_
                  refine Ev.iastE (k := wh m i) rfl h_ne rfl ⟨(by omega), by decide⟩ (fun τ1 f1 h_ne => ?_)
                  have h_bn := frm.cell f1 h_bn (by omega)
                  have h_who := frm.cell f1 h_who (by omega)
                  have h_co := frm.cell f1 h_co (by omega)
                  have h_be := frm.cell f1 h_be (by omega)
                  have fr := fr.step f1 (by omega) (by omega)
                  refine Ev.iload rfl rfl ?_
                  refine Ev.iconst (v := (-1)) rfl (by decide) ?_
                  refine Ev.jeq (tgt := 190) rfl (by decide) (fun c142 => ?_) (fun c142 => absurd (by decide) c142)
                  refine Ev.iload_n rfl rfl ?_
                  refine Ev.istore_n rfl rfl rfl ?_
                  refine Ev.iinc (d := 1) rfl rfl rfl (by decide) rfl ?_
                  refine Ev.goto (tgt := 11) rfl (by decide) ?_
                  exact (ih11 (clr s i) (i + 1) (upd ne11 (wh m i) (-1 : Int32)) (⟨by omega, bnx_0 (pst_go hpst hil hib hLW hinj (fun p hp h1 h2 => pk_un (fun c => h1 (hinj p i hp hil c))) (Or.inl ⟨rfl, pk_us⟩))⟩) (by omega) τ1 fr h_bn h_who h_co h_ne h_be).fg (gs rfl (gs rfl (gs (congrArg Value.int (nq_add (a := i) (b := 1) rfl (rfl : (1 : Int32) = nI 1)).symm) (gn (gn (gn (gn gz)))))))
                · subst hb1
                  refine Ev.aload_n rfl rfl ?_
                  refine Ev.getf rfl rfl h_bn rfl ?_
                  refine Ev.aload_n rfl rfl ?_
                  refine Ev.getf rfl rfl h_bn rfl ?_
                  refine Ev.iload_n rfl rfl ?_
                  refine Ev.ialdN (k := i) rfl h_who rfl ⟨(by omega), by decide⟩ ?_
                  rw [hwo i (by omega)]
                  have hw_i := hwl i (by omega)
                  refine Ev.iconst (v := (-1)) rfl (by decide) ?_
                  refine Ev.iastE (k := wh m i) rfl h_ne rfl ⟨(by omega), by decide⟩ (fun τ2 f1 h_ne => ?_)
                  have h_bn := frm.cell f1 h_bn (by omega)
                  have h_who := frm.cell f1 h_who (by omega)
                  have h_co := frm.cell f1 h_co (by omega)
                  have h_be := frm.cell f1 h_be (by omega)
                  have fr := fr.step f1 (by omega) (by omega)
                  refine Ev.iload rfl rfl ?_
                  refine Ev.iconst (v := (-1)) rfl (by decide) ?_
                  refine Ev.jeq (tgt := 190) rfl (by decide) (fun c142 => absurd c142 (nI_m1 (by omega))) (fun c142 => ?_)
                  refine Ev.aload_n rfl rfl ?_
                  refine Ev.getf rfl rfl h_bn rfl ?_
                  refine Ev.aload_n rfl rfl ?_
                  refine Ev.getf rfl rfl h_bn rfl ?_
                  refine Ev.iload_n rfl rfl ?_
                  refine Ev.ialdN (k := i) rfl h_who rfl ⟨(by omega), by decide⟩ ?_
                  rw [hwo i (by omega)]
                  have hw_i := hwl i (by omega)
                  refine Ev.aload_n rfl rfl ?_
                  refine Ev.getf rfl rfl h_bn rfl ?_
                  refine Ev.iload rfl rfl ?_
                  refine Ev.ialdN (k := w) rfl h_who rfl ⟨(by omega), by decide⟩ ?_
                  rw [hwo w (by omega)]
                  have hw_w := hwl w (by omega)
                  refine Ev.iastE (k := wh m i) rfl h_ne rfl ⟨(by omega), by decide⟩ (fun τ3 f1 h_ne => ?_)
                  have h_bn := frm.cell f1 h_bn (by omega)
                  have h_who := frm.cell f1 h_who (by omega)
                  have h_co := frm.cell f1 h_co (by omega)
                  have h_be := frm.cell f1 h_be (by omega)
                  have fr := fr.step f1 (by omega) (by omega)
                  refine Ev.aload_n rfl rfl ?_
                  refine Ev.getf rfl rfl h_bn rfl ?_
                  refine Ev.aload_n rfl rfl ?_
                  refine Ev.getf rfl rfl h_bn rfl ?_
                  refine Ev.iload rfl rfl ?_
                  refine Ev.ialdN (k := w) rfl h_who rfl ⟨(by omega), by decide⟩ ?_
                  rw [hwo w (by omega)]
                  have hw_w := hwl w (by omega)
                  refine Ev.aload_n rfl rfl ?_
                  refine Ev.getf rfl rfl h_bn rfl ?_
                  refine Ev.iload_n rfl rfl ?_
                  refine Ev.ialdN (k := i) rfl h_who rfl ⟨(by omega), by decide⟩ ?_
                  rw [hwo i (by omega)]
                  have hw_i := hwl i (by omega)
                  refine Ev.iastE (k := wh m w) rfl h_ne rfl ⟨(by omega), by decide⟩ (fun τ4 f1 h_ne => ?_)
                  have h_bn := frm.cell f1 h_bn (by omega)
                  have h_who := frm.cell f1 h_who (by omega)
                  have h_co := frm.cell f1 h_co (by omega)
                  have h_be := frm.cell f1 h_be (by omega)
                  have fr := fr.step f1 (by omega) (by omega)
                  refine Ev.iload_n rfl rfl ?_
                  refine Ev.iconst (v := 1) rfl (by decide) ?_
                  refine Ev.iload rfl rfl ?_
                  refine Ev.ishl rfl ?_
                  refine Ev.iconst (v := (-1)) rfl (by decide) ?_
                  refine Ev.ixor rfl ?_
                  refine Ev.iand rfl ?_
                  rw [show (nI (clr s i)) &&& (((1 : Int32) <<< ((nI w) &&& 31)) ^^^ (-1 : Int32)) = nI (clr (clr s i) w) from (bclr_nI (s := clr s i) (f := w) (by omega) (by omega))]
                  refine Ev.istore_n rfl rfl rfl ?_
                  refine Ev.iload_n rfl rfl ?_
                  refine Ev.istore_n rfl rfl rfl ?_
                  refine Ev.iinc (d := 1) rfl rfl rfl (by decide) rfl ?_
                  refine Ev.goto (tgt := 11) rfl (by decide) ?_
                  exact (ih11 (clr (clr s i) w) (i + 1) (upd (upd (upd ne11 (wh m i) (-1 : Int32)) (wh m i) (nI (wh m w))) (wh m w) (nI (wh m i))) (⟨by omega, bnx_1 (by omega) (pst_go hpst hil hib hLW hinj (fun p hp h1 h2 => (pk_un (fun c => h2 (hinj p w hp hwn c))).trans ((pk_un (fun c => h1 (hinj p i hp hil c))).trans (pk_un (fun c => h1 (hinj p i hp hil c))))) (Or.inr ⟨hwn, (pk_un (fun c => by have := hinj i w hil hwn c; omega)).trans pk_us, pk_us⟩))⟩) (by omega) τ4 fr h_bn h_who h_co h_ne h_be).fg (gs rfl (gs rfl (gs (congrArg Value.int (nq_add (a := i) (b := 1) rfl (rfl : (1 : Int32) = nI 1)).symm) (gn (gn (gn (gn gz)))))))
              · skip
                have hjl : j < n := (nI_ltI (a := j) (b := n) (by omega) (by omega)).mp c52
                refine Ev.iload rfl rfl ?_
                refine Ev.iconst (v := (-1)) rfl (by decide) ?_
                refine Ev.jne (tgt := 127) rfl (by decide) (fun c58 => ?_) (fun c58 => ?_)
                · skip
                  have hend := wst_end hwst (by first | exact Or.inl (Nat.le_of_not_lt (fun h => c52 (nI_lt h (by omega)))) | exact Or.inr c58) hBl hlo
                  rcases hend with ⟨hb1, hLW⟩ | ⟨w, hb1, hwn, hiw, hLW⟩
                  · subst hb1
                    refine Ev.aload_n rfl rfl ?_
                    refine Ev.getf rfl rfl h_bn rfl ?_
                    refine Ev.aload_n rfl rfl ?_
                    refine Ev.getf rfl rfl h_bn rfl ?_
                    refine Ev.iload_n rfl rfl ?_
                    refine Ev.ialdN (k := i) rfl h_who rfl ⟨(by omega), by decide⟩ ?_
                    rw [hwo i (by omega)]
                    have hw_i := hwl i (by omega)
                    refine Ev.iconst (v := (-1)) rfl (by decide) ?_
                    refine Ev.iastE (k := wh m i) rfl h_ne rfl ⟨(by omega), by decide⟩ (fun τ5 f1 h_ne => ?_)
                    have h_bn := frm.cell f1 h_bn (by omega)
                    have h_who := frm.cell f1 h_who (by omega)
                    have h_co := frm.cell f1 h_co (by omega)
                    have h_be := frm.cell f1 h_be (by omega)
                    have fr := fr.step f1 (by omega) (by omega)
                    refine Ev.iload rfl rfl ?_
                    refine Ev.iconst (v := (-1)) rfl (by decide) ?_
                    refine Ev.jeq (tgt := 190) rfl (by decide) (fun c142 => ?_) (fun c142 => absurd (by decide) c142)
                    refine Ev.iload_n rfl rfl ?_
                    refine Ev.istore_n rfl rfl rfl ?_
                    refine Ev.iinc (d := 1) rfl rfl rfl (by decide) rfl ?_
                    refine Ev.goto (tgt := 11) rfl (by decide) ?_
                    exact (ih11 (clr s i) (i + 1) (upd ne11 (wh m i) (-1 : Int32)) (⟨by omega, bnx_0 (pst_go hpst hil hib hLW hinj (fun p hp h1 h2 => pk_un (fun c => h1 (hinj p i hp hil c))) (Or.inl ⟨rfl, pk_us⟩))⟩) (by omega) τ5 fr h_bn h_who h_co h_ne h_be).fg (gs rfl (gs rfl (gs (congrArg Value.int (nq_add (a := i) (b := 1) rfl (rfl : (1 : Int32) = nI 1)).symm) (gn (gn (gn (gn gz)))))))
                  · subst hb1
                    refine Ev.aload_n rfl rfl ?_
                    refine Ev.getf rfl rfl h_bn rfl ?_
                    refine Ev.aload_n rfl rfl ?_
                    refine Ev.getf rfl rfl h_bn rfl ?_
                    refine Ev.iload_n rfl rfl ?_
                    refine Ev.ialdN (k := i) rfl h_who rfl ⟨(by omega), by decide⟩ ?_
                    rw [hwo i (by omega)]
                    have hw_i := hwl i (by omega)
                    refine Ev.iconst (v := (-1)) rfl (by decide) ?_
                    refine Ev.iastE (k := wh m i) rfl h_ne rfl ⟨(by omega), by decide⟩ (fun τ6 f1 h_ne => ?_)
                    have h_bn := frm.cell f1 h_bn (by omega)
                    have h_who := frm.cell f1 h_who (by omega)
                    have h_co := frm.cell f1 h_co (by omega)
                    have h_be := frm.cell f1 h_be (by omega)
                    have fr := fr.step f1 (by omega) (by omega)
                    refine Ev.iload rfl rfl ?_
                    refine Ev.iconst (v := (-1)) rfl (by decide) ?_
                    refine Ev.jeq (tgt := 190) rfl (by decide) (fun c142 => absurd c142 (nI_m1 (by omega))) (fun c142 => ?_)
                    refine Ev.aload_n rfl rfl ?_
                    refine Ev.getf rfl rfl h_bn rfl ?_
                    refine Ev.aload_n rfl rfl ?_
                    refine Ev.getf rfl rfl h_bn rfl ?_
                    refine Ev.iload_n rfl rfl ?_
                    refine Ev.ialdN (k := i) rfl h_who rfl ⟨(by omega), by decide⟩ ?_
                    rw [hwo i (by omega)]
                    have hw_i := hwl i (by omega)
                    refine Ev.aload_n rfl rfl ?_
                    refine Ev.getf rfl rfl h_bn rfl ?_
                    refine Ev.iload rfl rfl ?_
                    refine Ev.ialdN (k := w) rfl h_who rfl ⟨(by omega), by decide⟩ ?_
                    rw [hwo w (by omega)]
                    have hw_w := hwl w (by omega)
                    refine Ev.iastE (k := wh m i) rfl h_ne rfl ⟨(by omega), by decide⟩ (fun τ7 f1 h_ne => ?_)
                    have h_bn := frm.cell f1 h_bn (by omega)
                    have h_who := frm.cell f1 h_who (by omega)
                    have h_co := frm.cell f1 h_co (by omega)
                    have h_be := frm.cell f1 h_be (by omega)
                    have fr := fr.step f1 (by omega) (by omega)
                    refine Ev.aload_n rfl rfl ?_
                    refine Ev.getf rfl rfl h_bn rfl ?_
                    refine Ev.aload_n rfl rfl ?_
                    refine Ev.getf rfl rfl h_bn rfl ?_
                    refine Ev.iload rfl rfl ?_
                    refine Ev.ialdN (k := w) rfl h_who rfl ⟨(by omega), by decide⟩ ?_
                    rw [hwo w (by omega)]
                    have hw_w := hwl w (by omega)
                    refine Ev.aload_n rfl rfl ?_
                    refine Ev.getf rfl rfl h_bn rfl ?_
                    refine Ev.iload_n rfl rfl ?_
                    refine Ev.ialdN (k := i) rfl h_who rfl ⟨(by omega), by decide⟩ ?_
                    rw [hwo i (by omega)]
                    have hw_i := hwl i (by omega)
                    refine Ev.iastE (k := wh m w) rfl h_ne rfl ⟨(by omega), by decide⟩ (fun τ8 f1 h_ne => ?_)
                    have h_bn := frm.cell f1 h_bn (by omega)
                    have h_who := frm.cell f1 h_who (by omega)
                    have h_co := frm.cell f1 h_co (by omega)
                    have h_be := frm.cell f1 h_be (by omega)
                    have fr := fr.step f1 (by omega) (by omega)
                    refine Ev.iload_n rfl rfl ?_
                    refine Ev.iconst (v := 1) rfl (by decide) ?_
                    refine Ev.iload rfl rfl ?_
                    refine Ev.ishl rfl ?_
                    refine Ev.iconst (v := (-1)) rfl (by decide) ?_
                    refine Ev.ixor rfl ?_
                    refine Ev.iand rfl ?_
                    rw [show (nI (clr s i)) &&& (((1 : Int32) <<< ((nI w) &&& 31)) ^^^ (-1 : Int32)) = nI (clr (clr s i) w) from (bclr_nI (s := clr s i) (f := w) (by omega) (by omega))]
                    refine Ev.istore_n rfl rfl rfl ?_
                    refine Ev.iload_n rfl rfl ?_
                    refine Ev.istore_n rfl rfl rfl ?_
                    refine Ev.iinc (d := 1) rfl rfl rfl (by decide) rfl ?_
                    refine Ev.goto (tgt := 11) rfl (by decide) ?_
                    exact (ih11 (clr (clr s i) w) (i + 1) (upd (upd (upd ne11 (wh m i) (-1 : Int32)) (wh m i) (nI (wh m w))) (wh m w) (nI (wh m i))) (⟨by omega, bnx_1 (by omega) (pst_go hpst hil hib hLW hinj (fun p hp h1 h2 => (pk_un (fun c => h2 (hinj p w hp hwn c))).trans ((pk_un (fun c => h1 (hinj p i hp hil c))).trans (pk_un (fun c => h1 (hinj p i hp hil c))))) (Or.inr ⟨hwn, (pk_un (fun c => by have := hinj i w hil hwn c; omega)).trans pk_us, pk_us⟩))⟩) (by omega) τ8 fr h_bn h_who h_co h_ne h_be).fg (gs rfl (gs rfl (gs (congrArg Value.int (nq_add (a := i) (b := 1) rfl (rfl : (1 : Int32) = nI 1)).symm) (gn (gn (gn (gn gz)))))))
                · skip
                  skip
                  refine Ev.iload_n rfl rfl ?_
                  refine Ev.iload rfl rfl ?_
                  refine Ev.ishr rfl ?_
                  refine Ev.iconst (v := 1) rfl (by decide) ?_
                  refine Ev.iand rfl ?_
                  refine Ev.zeq (tgt := 74) rfl (by decide) (fun c67 => ?_) (fun c67 => ?_)
                  · skip
                    refine Ev.iconst (v := 0) rfl (by decide) ?_
                    refine Ev.istore rfl rfl rfl ?_
                    refine Ev.iload rfl rfl ?_
                    refine Ev.zeq (tgt := 121) rfl (by decide) (fun c79 => ?_) (fun c79 => absurd rfl c79)
                    refine Ev.iinc (d := 1) rfl rfl rfl (by decide) rfl ?_
                    refine Ev.goto (tgt := 46) rfl (by decide) ?_
                    exact (ih46 (j + 1) b4 (⟨by omega, by omega, wst_skip hwst c58 (Or.inl (by rw [← clr_ne (s := s) (i := i) (j := j) (by omega)]; exact bit_n (m := clr s i) (k := j) (by omega) (by omega) c67)) (by omega)⟩) (by omega) τ46 fr h_bn h_who h_co h_ne h_be).fg (gs rfl (gs rfl (gs rfl (gs rfl (gs rfl (gs (congrArg Value.int (nq_add (a := j) (b := 1) rfl (rfl : (1 : Int32) = nI 1)).symm) (gn gz)))))))
                  · skip
                    refine Ev.iconst (v := 1) rfl (by decide) ?_
                    refine Ev.goto (tgt := 75) rfl (by decide) ?_
                    refine Ev.istore rfl rfl rfl ?_
                    refine Ev.iload rfl rfl ?_
                    refine Ev.zeq (tgt := 121) rfl (by decide) (fun c79 => absurd c79 (by decide)) (fun c79 => ?_)
                    have hjb0 := bit_y (m := clr s i) (k := j) (by omega) (by omega) c67
                    have hjb : s.testBit j = true := by rwa [clr_ne (by omega)] at hjb0
                    have hcl2 := clr_le (clr s i) j
                    have hX := bvl_i (n := n) (v := v) (B := vf be) (s := s) (f := i) hjl
                    have hvj : bvl n v (vf be) s i j ≤ 297 * s := bvl_le hv hlo (fun q hq => hTab.ok (by omega))
                    have hvs := (hTab.ok (s := s) (by omega)).2
                    refine Ev.aload_n rfl rfl ?_
                    refine Ev.getf rfl rfl h_bn rfl ?_
                    refine Ev.iload_n rfl rfl ?_
                    refine Ev.bipush (v := 12) rfl (by decide) ?_
                    refine Ev.imul rfl ?_
                    refine Ev.iload rfl rfl ?_
                    refine Ev.iadd rfl ?_
                    refine Ev.ialdN (k := i * 12 + j) rfl h_co (nq_add (a := i * 12) (b := j) (nq_mul (a := i) (b := 12) rfl (rfl : (12 : Int32) = nI 12)) rfl) ⟨(by omega), by decide⟩ ?_
                    rw [hco i j (by omega) (by omega)]
                    refine Ev.aload_n rfl rfl ?_
                    refine Ev.getf rfl rfl h_bn rfl ?_
                    refine Ev.iload_n rfl rfl ?_
                    refine Ev.iconst (v := 1) rfl (by decide) ?_
                    refine Ev.iload rfl rfl ?_
                    refine Ev.ishl rfl ?_
                    refine Ev.iconst (v := (-1)) rfl (by decide) ?_
                    refine Ev.ixor rfl ?_
                    refine Ev.iand rfl ?_
                    rw [show (nI (clr s i)) &&& (((1 : Int32) <<< ((nI j) &&& 31)) ^^^ (-1 : Int32)) = nI (clr (clr s i) j) from (bclr_nI (s := clr s i) (f := j) (by omega) (by omega))]
                    refine Ev.ialdN (k := clr (clr s i) j) rfl h_be rfl ⟨(by omega), by decide⟩ ?_
                    rw [(hTab.ok (s := clr (clr s i) j) (by omega)).1]
                    refine Ev.iadd rfl ?_
                    rw [show (nI (v i j)) + (nI (vf be (clr (clr s i) j))) = nI (v i j + (vf be (clr (clr s i) j))) from (nq_add (a := v i j) (b := vf be (clr (clr s i) j)) rfl rfl)]
                    refine Ev.aload_n rfl rfl ?_
                    refine Ev.getf rfl rfl h_bn rfl ?_
                    refine Ev.iload_n rfl rfl ?_
                    refine Ev.ialdN (k := s) rfl h_be rfl ⟨(by omega), by decide⟩ ?_
                    rw [(hTab.ok (s := s) (by omega)).1]
                    refine Ev.jne (tgt := 121) rfl (by decide) (fun c114 => ?_) (fun c114 => ?_)
                    · skip
                      refine Ev.iinc (d := 1) rfl rfl rfl (by decide) rfl ?_
                      refine Ev.goto (tgt := 46) rfl (by decide) ?_
                      exact (ih46 (j + 1) b4 (⟨by omega, by omega, wst_skip hwst c58 (Or.inr (fun e => c114 (by rw [Nat.add_comm, hX, e]))) (by omega)⟩) (by omega) τ46 fr h_bn h_who h_co h_ne h_be).fg (gs rfl (gs rfl (gs rfl (gs rfl (gs rfl (gs (congrArg Value.int (nq_add (a := j) (b := 1) rfl (rfl : (1 : Int32) = nI 1)).symm) (gn gz)))))))
                    · skip
                      refine Ev.iload rfl rfl ?_
                      refine Ev.istore rfl rfl rfl ?_
                      refine Ev.iinc (d := 1) rfl rfl rfl (by decide) rfl ?_
                      refine Ev.goto (tgt := 46) rfl (by decide) ?_
                      exact (ih46 (j + 1) (nI j) (⟨by omega, by omega, wst_up hwst c58 hij hjl hjb (by rw [← hX, Nat.add_comm]; exact nI_injL (by omega) (by omega) c114) (by omega)⟩) (by omega) τ46 fr h_bn h_who h_co h_ne h_be).fg (gs rfl (gs rfl (gs rfl (gs rfl (gs rfl (gs (congrArg Value.int (nq_add (a := j) (b := 1) rfl (rfl : (1 : Int32) = nI 1)).symm) (gn gz)))))))
          exact (hl46 _ (i + 1) (-1 : Int32) (⟨Nat.lt_succ_self _, by omega, wst_0⟩) (Nat.lt_succ_self _) τ11 fr h_bn h_who h_co h_ne h_be).fg (gs rfl (gs rfl (gs rfl (gs rfl (gs rfl (gs (congrArg Value.int (nq_add (a := i) (b := 1) rfl (rfl : (1 : Int32) = nI 1)).symm) (gn gz)))))))
        · skip
          refine Ev.goto (tgt := 192) rfl (by decide) ?_
          refine Ev.iinc (d := 1) rfl rfl rfl (by decide) rfl ?_
          refine Ev.goto (tgt := 11) rfl (by decide) ?_
          exact (ih11 s (i + 1) ne11 (⟨by omega, pst_skip hpst (bit_n (m := s) (k := i) (by omega) (by omega) c24)⟩) (by omega) τ11 fr h_bn h_who h_co h_ne h_be).fg (gs rfl (gs rfl (gs (congrArg Value.int (nq_add (a := i) (b := 1) rfl (rfl : (1 : Int32) = nI 1)).symm) (gn (gn (gn (gn gz)))))))
  exact (hl11 _ ((2 ^ n) - 1) 0 ne (⟨Nat.zero_le _, pst_0⟩) (Nat.lt_succ_self _) σ fr h_bn h_who h_co h_ne h_be).fg (gs rfl (gs rfl (gs (congrArg Value.int (rfl : (0 : Int32) = nI 0).symm) (gn (gn (gn (gn gz)))))))
end
end
