/-! Copies: schools, classes, plans, all that is told. A row may be given other contents that agree as far as it goes. -/
noncomputable section
section
variable {Γ : ex_G} {RC RS mi cells slots pc : Nat} {L : ex_L} {st : List Value} {σ : ex_S} {Q : Option Value → ex_S → Prop}
theorem vp_ext (cA : ClassId) {n : Nat} {f g : Nat → Int32} (e : ∀ j, j < n → f j = g j) : vp_cell cA (n, .inl f) = vp_cell cA (n, .inl g) := by
  rw [vp_cell_i, vp_cell_i]
  unfold arrV
  congr 1
  apply Array.ext
  · simp
  · intro i h1 h2
    simp at h1
    simp [e i h1]
theorem Ev.norm {a n t : Nat} {f g : Nat → Int32} (ha : σ.2 a = some (.inl (t, n, f))) (e : ∀ j, j < n → f j = g j) (h : Ev Γ RC RS mi cells slots pc L st (ex_put σ a (.inl (t, n, g))) Q) : Ev Γ RC RS mi cells slots pc L st σ Q := by
  intro p l e' R s m args below meth c H locs ls Z X r1 r2 hM hS hL hn hZ
  refine h p l e' R s m args below meth c H locs ls Z X r1 r2 ⟨hM.1, hM.2.1, fun q b hq => ?_⟩ hS hL hn hZ
  by_cases hqa : q = a
  · subst hqa
    rw [ex_put_eq] at hq
    cases hq
    obtain ⟨h1, h2⟩ := hM.2.2 q _ ha
    refine ⟨h1, ?_⟩
    have h2 : H[q]? = some (vp_cell (gT Γ t) (n, .inl f)) := h2
    show H[q]? = some (vp_cell (gT Γ t) (n, .inl g))
    rw [h2, vp_ext _ e]
  · rw [ex_put_ne hqa] at hq
    exact hM.2.2 q b hq
theorem cpy_all {f g : Nat → Int32} {N : Nat} (j : Nat) (hj : j < N) : va_cpy f g 0 0 N j = f j := by
  unfold va_cpy
  rw [if_pos (by omega)]
  simp
theorem Ev.copyE {idx a a0 N t : Nat} {f g : Nat → Int32} {n : Int32} {ty : FieldType} (hi : pg_ins mi pc = some (.invokestatic idx, 3)) (hk : (pg_acs.getD (pg_oi mi) []).lookup idx = some ()) (ha0 : σ.2 a0 = some (.inl (t, N, f))) (ha : σ.2 a = some (.inl (t, N, g))) (ht : (ex_tys Γ)[t]? = some (gT Γ t, ty)) (hp : refKind ty = false) (hn : n = nI N) (hN : N < 1000) (hfit : ∀ i, i < N → fits ty (.int (f i)) = true) (hf : Nat.ble 1 (pg_fr mi) = true) (hw : (st.map fun v => v.category).sum + (nativeFrameWords "java/lang/System" "arraycopy" 5 + 11) ≤ pg_lo mi)
    (h : ∀ τ, frm σ τ a (a + 1) → τ.2 a = some (.inl (t, N, f)) → Ev Γ RC RS mi cells slots (pc + 3) L st τ Q) : Ev Γ RC RS mi cells slots pc L (.int n :: .int 0 :: .ref a :: .int 0 :: .ref a0 :: st) σ Q := by
  subst hn
  have e0 : (0 : Int32).toNatClampNeg = 0 := by decide
  have eN : (nI N).toNatClampNeg = N := nI_clamp (by omega)
  refine Ev.copy hi hk ha0 ha ht hp (by decide) (by decide) (nI_pos (by omega)) (by rw [e0, eN]; omega) (by rw [e0, eN]; omega) (fun i hi' => by rw [e0]; rw [eN] at hi'; simpa using hfit i hi') hf hw ?_
  rw [e0, eN]
  refine Ev.norm ex_put_eq (fun j hj => cpy_all j hj) ?_
  refine h _ ((frm.rf.put (Nat.le_refl _) (Nat.lt_succ_self _)).put (Nat.le_refl _) (Nat.lt_succ_self _)) ex_put_eq
theorem Ev.copySE {idx a a0 N : Nat} {f g : Nat → Int32} {n : Int32} (hi : pg_ins mi pc = some (.invokestatic idx, 3)) (hk : (pg_acs.getD (pg_oi mi) []).lookup idx = some ()) (ha0 : (a0, 0, N, f) ∈ gA Γ) (ha : σ.2 a = some (.inl (0, N, g))) (hn : n = nI N) (hN : N < 1000) (hf : Nat.ble 1 (pg_fr mi) = true) (hw : (st.map fun v => v.category).sum + (nativeFrameWords "java/lang/System" "arraycopy" 5 + 11) ≤ pg_lo mi)
    (h : ∀ τ, frm σ τ a (a + 1) → τ.2 a = some (.inl (0, N, f)) → Ev Γ RC RS mi cells slots (pc + 3) L st τ Q) : Ev Γ RC RS mi cells slots pc L (.int n :: .int 0 :: .ref a :: .int 0 :: .ref a0 :: st) σ Q := by
  subst hn
  have e0 : (0 : Int32).toNatClampNeg = 0 := by decide
  have eN : (nI N).toNatClampNeg = N := nI_clamp (by omega)
  refine Ev.copyS hi hk ha0 ha (by decide) (by decide) (nI_pos (by omega)) (by rw [e0, eN]; omega) (by rw [e0, eN]; omega) hf hw ?_
  rw [e0, eN]
  refine Ev.norm ex_put_eq (fun j hj => cpy_all j hj) ?_
  refine h _ ((frm.rf.put (Nat.le_refl _) (Nat.lt_succ_self _)).put (Nat.le_refl _) (Nat.lt_succ_self _)) ex_put_eq
end
section
variable {Γ : ex_G} {σ : ex_S} {x q a p y : Nat} {S : Sch} {T : Tol} {P : Pln} {g A : Nat → Int32}
theorem copyS_ok {b : Nat} {D : Sch} (hD : isS σ a D) (hB0 : isS σ b S) (hab : a + 11 ≤ b ∨ b + 11 ≤ a) : RetX Γ m_School_copyFrom [.ref a, .ref b] σ a (a + 11) none (fun τ => isS τ a S) := by
  unfold RetX
  generalize hQ : (fun (r : Option Value) (τ : ex_S) => r = none ∧ frm σ τ a (a + 11) ∧ (fun τ => isS τ a S) τ) = Q
  have fr : frm σ σ a (a + 11) := frm.rf
  have hB := hB0
  obtain ⟨b0, b1, b2, b3, b4, b5, b6, b7, b8, b9, b10⟩ := id hB
  obtain ⟨d0, d1, d2, d3, d4, d5, d6, d7, d8, d9, d10⟩ := id hD
  refine Ret.start pm_72 rfl ?_
  refine Ev.aload_n rfl rfl ?_
  refine Ev.aload_n rfl rfl ?_
  refine Ev.getf rfl rfl b0 rfl ?_
  refine Ev.putE rfl rfl d0 rfl rfl rfl (Nat.le_of_ble_eq_true rfl) (fun τ1 f1 d0 => ?_)
  replace d0 : τ1.2 a = some (.inr (.inr (2, [(.int (nI S.1)), (.ref (a + 1)), (.ref (a + 2)), (.ref (a + 3)), (.ref (a + 4)), (.ref (a + 5)), (.int (nI D.2.1)), (.ref (a + 6)), (.ref (a + 7)), (.ref (a + 8)), (.ref (a + 9)), (.ref (a + 10))]))) := d0
  have d1 := frm.cell f1 d1 (by omega)
  have d2 := frm.cell f1 d2 (by omega)
  have d3 := frm.cell f1 d3 (by omega)
  have d4 := frm.cell f1 d4 (by omega)
  have d5 := frm.cell f1 d5 (by omega)
  have d6 := frm.cell f1 d6 (by omega)
  have d7 := frm.cell f1 d7 (by omega)
  have d8 := frm.cell f1 d8 (by omega)
  have d9 := frm.cell f1 d9 (by omega)
  have d10 := frm.cell f1 d10 (by omega)
  have fr := fr.step f1 (by omega) (by omega)
  have hB := hB0.frm fr (by omega)
  obtain ⟨b0, b1, b2, b3, b4, b5, b6, b7, b8, b9, b10⟩ := id hB
  refine Ev.aload_n rfl rfl ?_
  refine Ev.getf rfl rfl b0 rfl ?_
  refine Ev.iconst (v := 0) rfl (by decide) ?_
  refine Ev.aload_n rfl rfl ?_
  refine Ev.getf rfl rfl d0 rfl ?_
  refine Ev.iconst (v := 0) rfl (by decide) ?_
  refine Ev.bipush (v := 17) rfl (by decide) ?_
  refine Ev.copyE rfl rfl b1 d1 rfl rfl (rfl : _ = nI 17) (by decide) (fun _ _ => rfl) rfl (Nat.le_of_ble_eq_true rfl) (fun τ2 f1 d1 => ?_)
  have d0 := frm.cell f1 d0 (by omega)
  have d2 := frm.cell f1 d2 (by omega)
  have d3 := frm.cell f1 d3 (by omega)
  have d4 := frm.cell f1 d4 (by omega)
  have d5 := frm.cell f1 d5 (by omega)
  have d6 := frm.cell f1 d6 (by omega)
  have d7 := frm.cell f1 d7 (by omega)
  have d8 := frm.cell f1 d8 (by omega)
  have d9 := frm.cell f1 d9 (by omega)
  have d10 := frm.cell f1 d10 (by omega)
  have fr := fr.step f1 (by omega) (by omega)
  have hB := hB0.frm fr (by omega)
  obtain ⟨b0, b1, b2, b3, b4, b5, b6, b7, b8, b9, b10⟩ := id hB
  refine Ev.aload_n rfl rfl ?_
  refine Ev.getf rfl rfl b0 rfl ?_
  refine Ev.iconst (v := 0) rfl (by decide) ?_
  refine Ev.aload_n rfl rfl ?_
  refine Ev.getf rfl rfl d0 rfl ?_
  refine Ev.iconst (v := 0) rfl (by decide) ?_
  refine Ev.bipush (v := 16) rfl (by decide) ?_
  refine Ev.copyE rfl rfl b2 d2 rfl rfl (rfl : _ = nI 16) (by decide) (fun _ _ => rfl) rfl (Nat.le_of_ble_eq_true rfl) (fun τ3 f1 d2 => ?_)
  have d0 := frm.cell f1 d0 (by omega)
  have d1 := frm.cell f1 d1 (by omega)
  have d3 := frm.cell f1 d3 (by omega)
  have d4 := frm.cell f1 d4 (by omega)
  have d5 := frm.cell f1 d5 (by omega)
  have d6 := frm.cell f1 d6 (by omega)
  have d7 := frm.cell f1 d7 (by omega)
  have d8 := frm.cell f1 d8 (by omega)
  have d9 := frm.cell f1 d9 (by omega)
  have d10 := frm.cell f1 d10 (by omega)
  have fr := fr.step f1 (by omega) (by omega)
  have hB := hB0.frm fr (by omega)
  obtain ⟨b0, b1, b2, b3, b4, b5, b6, b7, b8, b9, b10⟩ := id hB
  refine Ev.aload_n rfl rfl ?_
  refine Ev.getf rfl rfl b0 rfl ?_
  refine Ev.iconst (v := 0) rfl (by decide) ?_
  refine Ev.aload_n rfl rfl ?_
  refine Ev.getf rfl rfl d0 rfl ?_
  refine Ev.iconst (v := 0) rfl (by decide) ?_
  refine Ev.bipush (v := 16) rfl (by decide) ?_
  refine Ev.copyE rfl rfl b3 d3 rfl rfl (rfl : _ = nI 16) (by decide) (fun _ _ => rfl) rfl (Nat.le_of_ble_eq_true rfl) (fun τ4 f1 d3 => ?_)
  have d0 := frm.cell f1 d0 (by omega)
  have d1 := frm.cell f1 d1 (by omega)
  have d2 := frm.cell f1 d2 (by omega)
  have d4 := frm.cell f1 d4 (by omega)
  have d5 := frm.cell f1 d5 (by omega)
  have d6 := frm.cell f1 d6 (by omega)
  have d7 := frm.cell f1 d7 (by omega)
  have d8 := frm.cell f1 d8 (by omega)
  have d9 := frm.cell f1 d9 (by omega)
  have d10 := frm.cell f1 d10 (by omega)
  have fr := fr.step f1 (by omega) (by omega)
  have hB := hB0.frm fr (by omega)
  obtain ⟨b0, b1, b2, b3, b4, b5, b6, b7, b8, b9, b10⟩ := id hB
  refine Ev.aload_n rfl rfl ?_
  refine Ev.getf rfl rfl b0 rfl ?_
  refine Ev.iconst (v := 0) rfl (by decide) ?_
  refine Ev.aload_n rfl rfl ?_
  refine Ev.getf rfl rfl d0 rfl ?_
  refine Ev.iconst (v := 0) rfl (by decide) ?_
  refine Ev.bipush (v := 16) rfl (by decide) ?_
  refine Ev.copyE rfl rfl b4 d4 rfl rfl (rfl : _ = nI 16) (by decide) (fun _ _ => rfl) rfl (Nat.le_of_ble_eq_true rfl) (fun τ5 f1 d4 => ?_)
  have d0 := frm.cell f1 d0 (by omega)
  have d1 := frm.cell f1 d1 (by omega)
  have d2 := frm.cell f1 d2 (by omega)
  have d3 := frm.cell f1 d3 (by omega)
  have d5 := frm.cell f1 d5 (by omega)
  have d6 := frm.cell f1 d6 (by omega)
  have d7 := frm.cell f1 d7 (by omega)
  have d8 := frm.cell f1 d8 (by omega)
  have d9 := frm.cell f1 d9 (by omega)
  have d10 := frm.cell f1 d10 (by omega)
  have fr := fr.step f1 (by omega) (by omega)
  have hB := hB0.frm fr (by omega)
  obtain ⟨b0, b1, b2, b3, b4, b5, b6, b7, b8, b9, b10⟩ := id hB
  refine Ev.aload_n rfl rfl ?_
  refine Ev.getf rfl rfl b0 rfl ?_
  refine Ev.iconst (v := 0) rfl (by decide) ?_
  refine Ev.aload_n rfl rfl ?_
  refine Ev.getf rfl rfl d0 rfl ?_
  refine Ev.iconst (v := 0) rfl (by decide) ?_
  refine Ev.bipush (v := 16) rfl (by decide) ?_
  refine Ev.copyE rfl rfl b5 d5 rfl rfl (rfl : _ = nI 16) (by decide) (fun _ _ => rfl) rfl (Nat.le_of_ble_eq_true rfl) (fun τ6 f1 d5 => ?_)
  have d0 := frm.cell f1 d0 (by omega)
  have d1 := frm.cell f1 d1 (by omega)
  have d2 := frm.cell f1 d2 (by omega)
  have d3 := frm.cell f1 d3 (by omega)
  have d4 := frm.cell f1 d4 (by omega)
  have d6 := frm.cell f1 d6 (by omega)
  have d7 := frm.cell f1 d7 (by omega)
  have d8 := frm.cell f1 d8 (by omega)
  have d9 := frm.cell f1 d9 (by omega)
  have d10 := frm.cell f1 d10 (by omega)
  have fr := fr.step f1 (by omega) (by omega)
  have hB := hB0.frm fr (by omega)
  obtain ⟨b0, b1, b2, b3, b4, b5, b6, b7, b8, b9, b10⟩ := id hB
  refine Ev.aload_n rfl rfl ?_
  refine Ev.aload_n rfl rfl ?_
  refine Ev.getf rfl rfl b0 rfl ?_
  refine Ev.putE rfl rfl d0 rfl rfl rfl (Nat.le_of_ble_eq_true rfl) (fun τ7 f1 d0 => ?_)
  replace d0 : τ7.2 a = some (.inr (.inr (2, [(.int (nI S.1)), (.ref (a + 1)), (.ref (a + 2)), (.ref (a + 3)), (.ref (a + 4)), (.ref (a + 5)), (.int (nI S.2.1)), (.ref (a + 6)), (.ref (a + 7)), (.ref (a + 8)), (.ref (a + 9)), (.ref (a + 10))]))) := d0
  have d1 := frm.cell f1 d1 (by omega)
  have d2 := frm.cell f1 d2 (by omega)
  have d3 := frm.cell f1 d3 (by omega)
  have d4 := frm.cell f1 d4 (by omega)
  have d5 := frm.cell f1 d5 (by omega)
  have d6 := frm.cell f1 d6 (by omega)
  have d7 := frm.cell f1 d7 (by omega)
  have d8 := frm.cell f1 d8 (by omega)
  have d9 := frm.cell f1 d9 (by omega)
  have d10 := frm.cell f1 d10 (by omega)
  have fr := fr.step f1 (by omega) (by omega)
  have hB := hB0.frm fr (by omega)
  obtain ⟨b0, b1, b2, b3, b4, b5, b6, b7, b8, b9, b10⟩ := id hB
  refine Ev.aload_n rfl rfl ?_
  refine Ev.getf rfl rfl b0 rfl ?_
  refine Ev.iconst (v := 0) rfl (by decide) ?_
  refine Ev.aload_n rfl rfl ?_
  refine Ev.getf rfl rfl d0 rfl ?_
  refine Ev.iconst (v := 0) rfl (by decide) ?_
  refine Ev.iconst (v := 5) rfl (by decide) ?_
  refine Ev.copyE rfl rfl b6 d6 rfl rfl (rfl : _ = nI 5) (by decide) (fun _ _ => rfl) rfl (Nat.le_of_ble_eq_true rfl) (fun τ8 f1 d6 => ?_)
  have d0 := frm.cell f1 d0 (by omega)
  have d1 := frm.cell f1 d1 (by omega)
  have d2 := frm.cell f1 d2 (by omega)
  have d3 := frm.cell f1 d3 (by omega)
  have d4 := frm.cell f1 d4 (by omega)
  have d5 := frm.cell f1 d5 (by omega)
  have d7 := frm.cell f1 d7 (by omega)
  have d8 := frm.cell f1 d8 (by omega)
  have d9 := frm.cell f1 d9 (by omega)
  have d10 := frm.cell f1 d10 (by omega)
  have fr := fr.step f1 (by omega) (by omega)
  have hB := hB0.frm fr (by omega)
  obtain ⟨b0, b1, b2, b3, b4, b5, b6, b7, b8, b9, b10⟩ := id hB
  refine Ev.aload_n rfl rfl ?_
  refine Ev.getf rfl rfl b0 rfl ?_
  refine Ev.iconst (v := 0) rfl (by decide) ?_
  refine Ev.aload_n rfl rfl ?_
  refine Ev.getf rfl rfl d0 rfl ?_
  refine Ev.iconst (v := 0) rfl (by decide) ?_
  refine Ev.iconst (v := 5) rfl (by decide) ?_
  refine Ev.copyE rfl rfl b7 d7 rfl rfl (rfl : _ = nI 5) (by decide) (fun _ _ => rfl) rfl (Nat.le_of_ble_eq_true rfl) (fun τ9 f1 d7 => ?_)
  have d0 := frm.cell f1 d0 (by omega)
  have d1 := frm.cell f1 d1 (by omega)
  have d2 := frm.cell f1 d2 (by omega)
  have d3 := frm.cell f1 d3 (by omega)
  have d4 := frm.cell f1 d4 (by omega)
  have d5 := frm.cell f1 d5 (by omega)
  have d6 := frm.cell f1 d6 (by omega)
  have d8 := frm.cell f1 d8 (by omega)
  have d9 := frm.cell f1 d9 (by omega)
  have d10 := frm.cell f1 d10 (by omega)
  have fr := fr.step f1 (by omega) (by omega)
  have hB := hB0.frm fr (by omega)
  obtain ⟨b0, b1, b2, b3, b4, b5, b6, b7, b8, b9, b10⟩ := id hB
  refine Ev.aload_n rfl rfl ?_
  refine Ev.getf rfl rfl b0 rfl ?_
  refine Ev.iconst (v := 0) rfl (by decide) ?_
  refine Ev.aload_n rfl rfl ?_
  refine Ev.getf rfl rfl d0 rfl ?_
  refine Ev.iconst (v := 0) rfl (by decide) ?_
  refine Ev.bipush (v := 7) rfl (by decide) ?_
  refine Ev.copyE rfl rfl b8 d8 rfl rfl (rfl : _ = nI 7) (by decide) (fun _ _ => rfl) rfl (Nat.le_of_ble_eq_true rfl) (fun τ10 f1 d8 => ?_)
  have d0 := frm.cell f1 d0 (by omega)
  have d1 := frm.cell f1 d1 (by omega)
  have d2 := frm.cell f1 d2 (by omega)
  have d3 := frm.cell f1 d3 (by omega)
  have d4 := frm.cell f1 d4 (by omega)
  have d5 := frm.cell f1 d5 (by omega)
  have d6 := frm.cell f1 d6 (by omega)
  have d7 := frm.cell f1 d7 (by omega)
  have d9 := frm.cell f1 d9 (by omega)
  have d10 := frm.cell f1 d10 (by omega)
  have fr := fr.step f1 (by omega) (by omega)
  have hB := hB0.frm fr (by omega)
  obtain ⟨b0, b1, b2, b3, b4, b5, b6, b7, b8, b9, b10⟩ := id hB
  refine Ev.aload_n rfl rfl ?_
  refine Ev.getf rfl rfl b0 rfl ?_
  refine Ev.iconst (v := 0) rfl (by decide) ?_
  refine Ev.aload_n rfl rfl ?_
  refine Ev.getf rfl rfl d0 rfl ?_
  refine Ev.iconst (v := 0) rfl (by decide) ?_
  refine Ev.bipush (v := 7) rfl (by decide) ?_
  refine Ev.copyE rfl rfl b9 d9 rfl rfl (rfl : _ = nI 7) (by decide) (fun _ _ => rfl) rfl (Nat.le_of_ble_eq_true rfl) (fun τ11 f1 d9 => ?_)
  have d0 := frm.cell f1 d0 (by omega)
  have d1 := frm.cell f1 d1 (by omega)
  have d2 := frm.cell f1 d2 (by omega)
  have d3 := frm.cell f1 d3 (by omega)
  have d4 := frm.cell f1 d4 (by omega)
  have d5 := frm.cell f1 d5 (by omega)
  have d6 := frm.cell f1 d6 (by omega)
  have d7 := frm.cell f1 d7 (by omega)
  have d8 := frm.cell f1 d8 (by omega)
  have d10 := frm.cell f1 d10 (by omega)
  have fr := fr.step f1 (by omega) (by omega)
  have hB := hB0.frm fr (by omega)
  obtain ⟨b0, b1, b2, b3, b4, b5, b6, b7, b8, b9, b10⟩ := id hB
  refine Ev.aload_n rfl rfl ?_
  refine Ev.getf rfl rfl b0 rfl ?_
  refine Ev.iconst (v := 0) rfl (by decide) ?_
  refine Ev.aload_n rfl rfl ?_
  refine Ev.getf rfl rfl d0 rfl ?_
  refine Ev.iconst (v := 0) rfl (by decide) ?_
  refine Ev.bipush (v := 11) rfl (by decide) ?_
  refine Ev.copyE rfl rfl b10 d10 rfl rfl (rfl : _ = nI 11) (by decide) (fun _ _ => rfl) rfl (Nat.le_of_ble_eq_true rfl) (fun τ12 f1 d10 => ?_)
  have d0 := frm.cell f1 d0 (by omega)
  have d1 := frm.cell f1 d1 (by omega)
  have d2 := frm.cell f1 d2 (by omega)
  have d3 := frm.cell f1 d3 (by omega)
  have d4 := frm.cell f1 d4 (by omega)
  have d5 := frm.cell f1 d5 (by omega)
  have d6 := frm.cell f1 d6 (by omega)
  have d7 := frm.cell f1 d7 (by omega)
  have d8 := frm.cell f1 d8 (by omega)
  have d9 := frm.cell f1 d9 (by omega)
  have fr := fr.step f1 (by omega) (by omega)
  have hB := hB0.frm fr (by omega)
  obtain ⟨b0, b1, b2, b3, b4, b5, b6, b7, b8, b9, b10⟩ := id hB
  refine Ev.ret rfl rfl (Nat.le_refl _) (Nat.le_refl _) ?_
  rw [← hQ]
  exact ⟨rfl, fr, d0, d1, d2, d3, d4, d5, d6, d7, d8, d9, d10⟩
theorem copyL_ok {b : Nat} {C D : Les} (hD : isL σ a D) (hB0 : isL σ b C) (hab : a ≠ b) : RetX Γ m_Lesson_copyFrom [.ref a, .ref b] σ a (a + 1) none (fun τ => isL τ a C) := by
  unfold RetX
  generalize hQ : (fun (r : Option Value) (τ : ex_S) => r = none ∧ frm σ τ a (a + 1) ∧ (fun τ => isL τ a C) τ) = Q
  have fr : frm σ σ a (a + 1) := frm.rf
  have hB := hB0
  refine Ret.start pm_114 rfl ?_
  refine Ev.aload_n rfl rfl ?_
  refine Ev.aload_n rfl rfl ?_
  refine Ev.getf rfl rfl hB rfl ?_
  refine Ev.putE rfl rfl hD rfl rfl rfl (Nat.le_of_ble_eq_true rfl) (fun τ1 f1 hD => ?_)
  replace hD : τ1.2 a = some (.inr (.inr (4, [(.int (C 0)), (.int (D 1)), (.int (D 2)), (.int (D 3)), (.int (D 4)), (.int (D 5))]))) := hD
  have fr := fr.step f1 (by omega) (by omega)
  have hB := hB0.frm fr (by omega)
  refine Ev.aload_n rfl rfl ?_
  refine Ev.aload_n rfl rfl ?_
  refine Ev.getf rfl rfl hB rfl ?_
  refine Ev.putE rfl rfl hD rfl rfl rfl (Nat.le_of_ble_eq_true rfl) (fun τ2 f1 hD => ?_)
  replace hD : τ2.2 a = some (.inr (.inr (4, [(.int (C 0)), (.int (C 1)), (.int (D 2)), (.int (D 3)), (.int (D 4)), (.int (D 5))]))) := hD
  have fr := fr.step f1 (by omega) (by omega)
  have hB := hB0.frm fr (by omega)
  refine Ev.aload_n rfl rfl ?_
  refine Ev.aload_n rfl rfl ?_
  refine Ev.getf rfl rfl hB rfl ?_
  refine Ev.putE rfl rfl hD rfl rfl rfl (Nat.le_of_ble_eq_true rfl) (fun τ3 f1 hD => ?_)
  replace hD : τ3.2 a = some (.inr (.inr (4, [(.int (C 0)), (.int (C 1)), (.int (C 2)), (.int (D 3)), (.int (D 4)), (.int (D 5))]))) := hD
  have fr := fr.step f1 (by omega) (by omega)
  have hB := hB0.frm fr (by omega)
  refine Ev.aload_n rfl rfl ?_
  refine Ev.aload_n rfl rfl ?_
  refine Ev.getf rfl rfl hB rfl ?_
  refine Ev.putE rfl rfl hD rfl rfl rfl (Nat.le_of_ble_eq_true rfl) (fun τ4 f1 hD => ?_)
  replace hD : τ4.2 a = some (.inr (.inr (4, [(.int (C 0)), (.int (C 1)), (.int (C 2)), (.int (C 3)), (.int (D 4)), (.int (D 5))]))) := hD
  have fr := fr.step f1 (by omega) (by omega)
  have hB := hB0.frm fr (by omega)
  refine Ev.aload_n rfl rfl ?_
  refine Ev.aload_n rfl rfl ?_
  refine Ev.getf rfl rfl hB rfl ?_
  refine Ev.putE rfl rfl hD rfl rfl rfl (Nat.le_of_ble_eq_true rfl) (fun τ5 f1 hD => ?_)
  replace hD : τ5.2 a = some (.inr (.inr (4, [(.int (C 0)), (.int (C 1)), (.int (C 2)), (.int (C 3)), (.int (C 4)), (.int (D 5))]))) := hD
  have fr := fr.step f1 (by omega) (by omega)
  have hB := hB0.frm fr (by omega)
  refine Ev.aload_n rfl rfl ?_
  refine Ev.aload_n rfl rfl ?_
  refine Ev.getf rfl rfl hB rfl ?_
  refine Ev.putE rfl rfl hD rfl rfl rfl (Nat.le_of_ble_eq_true rfl) (fun τ6 f1 hD => ?_)
  replace hD : τ6.2 a = some (.inr (.inr (4, [(.int (C 0)), (.int (C 1)), (.int (C 2)), (.int (C 3)), (.int (C 4)), (.int (C 5))]))) := hD
  have fr := fr.step f1 (by omega) (by omega)
  have hB := hB0.frm fr (by omega)
  refine Ev.ret rfl rfl (Nat.le_refl _) (Nat.le_refl _) ?_
  rw [← hQ]
  exact ⟨rfl, fr, hD⟩
end
end
