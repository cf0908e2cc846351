/-! The line of a school (class): the public method (printed by sym.py). -/
noncomputable section
section
variable {Γ : ex_G} {σ : ex_S} {x q a p y : Nat} {S : Sch} {T : Tol} {P : Pln} {g A : Nat → Int32}
def K_line (T : Tol) (i k0 : Nat) (w : Int32) (D : Les) (ro wo ws be sz st : Nat → Int32) (u : Int32) : Int32 × Nat × Nat × Int32 × (Nat → Int32) × (Nat → Int32) × (Nat → Int32) × (Nat → Int32) × (Nat → Int32) × (Nat → Int32) × Int32 := if ((K_cut (tS T i) ((K_weigh (tS T i) D ro wo ws u).1) k0 ((K_weigh (tS T i) D ro wo ws u).2.2.1) ((K_weigh (tS T i) D ro wo ws u).2.2.2.1) be sz st).1) = (0 : Int32) then ((-1 : Int32), (K_weigh (tS T i) D ro wo ws u).1, (K_cut (tS T i) ((K_weigh (tS T i) D ro wo ws u).1) k0 ((K_weigh (tS T i) D ro wo ws u).2.2.1) ((K_weigh (tS T i) D ro wo ws u).2.2.2.1) be sz st).2.1, (K_cut (tS T i) ((K_weigh (tS T i) D ro wo ws u).1) k0 ((K_weigh (tS T i) D ro wo ws u).2.2.1) ((K_weigh (tS T i) D ro wo ws u).2.2.2.1) be sz st).2.2.1, (K_weigh (tS T i) D ro wo ws u).2.1, (K_weigh (tS T i) D ro wo ws u).2.2.1, (K_weigh (tS T i) D ro wo ws u).2.2.2.1, (K_cut (tS T i) ((K_weigh (tS T i) D ro wo ws u).1) k0 ((K_weigh (tS T i) D ro wo ws u).2.2.1) ((K_weigh (tS T i) D ro wo ws u).2.2.2.1) be sz st).2.2.2.1, (K_cut (tS T i) ((K_weigh (tS T i) D ro wo ws u).1) k0 ((K_weigh (tS T i) D ro wo ws u).2.2.1) ((K_weigh (tS T i) D ro wo ws u).2.2.2.1) be sz st).2.2.2.2.1, (K_cut (tS T i) ((K_weigh (tS T i) D ro wo ws u).1) k0 ((K_weigh (tS T i) D ro wo ws u).2.2.1) ((K_weigh (tS T i) D ro wo ws u).2.2.2.1) be sz st).2.2.2.2.2, (K_weigh (tS T i) D ro wo ws u).2.2.2.2) else (K_toldL ((K_weigh (tS T i) D ro wo ws u).1) ((K_cut (tS T i) ((K_weigh (tS T i) D ro wo ws u).1) k0 ((K_weigh (tS T i) D ro wo ws u).2.2.1) ((K_weigh (tS T i) D ro wo ws u).2.2.2.1) be sz st).2.1) ((K_cut (tS T i) ((K_weigh (tS T i) D ro wo ws u).1) k0 ((K_weigh (tS T i) D ro wo ws u).2.2.1) ((K_weigh (tS T i) D ro wo ws u).2.2.2.1) be sz st).2.2.1) ((K_weigh (tS T i) D ro wo ws u).2.1) ((K_cut (tS T i) ((K_weigh (tS T i) D ro wo ws u).1) k0 ((K_weigh (tS T i) D ro wo ws u).2.2.1) ((K_weigh (tS T i) D ro wo ws u).2.2.2.1) be sz st).2.2.2.2.1) ((K_cut (tS T i) ((K_weigh (tS T i) D ro wo ws u).1) k0 ((K_weigh (tS T i) D ro wo ws u).2.2.1) ((K_weigh (tS T i) D ro wo ws u).2.2.2.1) be sz st).2.2.2.2.2) w, (K_weigh (tS T i) D ro wo ws u).1, (K_cut (tS T i) ((K_weigh (tS T i) D ro wo ws u).1) k0 ((K_weigh (tS T i) D ro wo ws u).2.2.1) ((K_weigh (tS T i) D ro wo ws u).2.2.2.1) be sz st).2.1, (K_cut (tS T i) ((K_weigh (tS T i) D ro wo ws u).1) k0 ((K_weigh (tS T i) D ro wo ws u).2.2.1) ((K_weigh (tS T i) D ro wo ws u).2.2.2.1) be sz st).2.2.1, (K_weigh (tS T i) D ro wo ws u).2.1, (K_weigh (tS T i) D ro wo ws u).2.2.1, (K_weigh (tS T i) D ro wo ws u).2.2.2.1, (K_cut (tS T i) ((K_weigh (tS T i) D ro wo ws u).1) k0 ((K_weigh (tS T i) D ro wo ws u).2.2.1) ((K_weigh (tS T i) D ro wo ws u).2.2.2.1) be sz st).2.2.2.1, (K_cut (tS T i) ((K_weigh (tS T i) D ro wo ws u).1) k0 ((K_weigh (tS T i) D ro wo ws u).2.2.1) ((K_weigh (tS T i) D ro wo ws u).2.2.2.1) be sz st).2.2.2.2.1, (K_cut (tS T i) ((K_weigh (tS T i) D ro wo ws u).1) k0 ((K_weigh (tS T i) D ro wo ws u).2.2.1) ((K_weigh (tS T i) D ro wo ws u).2.2.2.1) be sz st).2.2.2.2.2, (K_weigh (tS T i) D ro wo ws u).2.2.2.2)
theorem line_some (hX0 : isX σ x) (hT0 : isT σ (x + 1) T) (hw : wT T) {u0 : Int32} {i : Nat} (hg : u0 = nI i ∧ i < tSn T) {n0 c0 : Nat} {lt u : Int32} {D : Les} {ro wo ws be sz st : Nat → Int32} (hln : σ.2 (x + 96) = some (.inr (.inr (6, [.ref (x + 96 + 1), .ref (x + 96 + 2), .ref (x + 96 + 3), .ref (x + 96 + 4), .ref (x + 96 + 5), .ref (x + 96 + 6), .ref (x + 96 + 7), .int (nI n0), .int (nI c0), .int lt])))) (h_row : σ.2 (x + 96 + 1) = some (.inl (0, 16, ro))) (h_worth : σ.2 (x + 96 + 2) = some (.inl (0, 272, wo))) (h_wst : σ.2 (x + 96 + 3) = some (.inl (0, 272, ws))) (h_best : σ.2 (x + 96 + 4) = some (.inl (0, 119, be))) (h_sizes : σ.2 (x + 96 + 5) = some (.inl (0, 6, sz))) (h_stp : σ.2 (x + 96 + 6) = some (.inl (0, 6, st))) (htr : isL σ (x + 96 + 7) (L_set D 3 u)) (hD : D 0 = 0) {k0 : Nat} (hk1 : 1 ≤ k0) (hk6 : k0 ≤ 6) (w : Int32) : RetX Γ m_SD_line [(.ref x), .int u0, (.int (nI k0)), (.int w)] σ (x + 96) (x + 104) (some (.int ((K_line T i k0 w D ro wo ws be sz st u).1))) (fun τ => τ.2 (x + 96) = some (.inr (.inr (6, [(.ref (x + 96 + 1)), (.ref (x + 96 + 2)), (.ref (x + 96 + 3)), (.ref (x + 96 + 4)), (.ref (x + 96 + 5)), (.ref (x + 96 + 6)), (.ref (x + 96 + 7)), (.int (nI ((K_line T i k0 w D ro wo ws be sz st u).2.1))), (.int (nI ((K_line T i k0 w D ro wo ws be sz st u).2.2.1))), (.int ((K_line T i k0 w D ro wo ws be sz st u).2.2.2.1))]))) ∧ τ.2 (x + 96 + 1) = some (.inl (0, 16, (K_line T i k0 w D ro wo ws be sz st u).2.2.2.2.1)) ∧ τ.2 (x + 96 + 2) = some (.inl (0, 272, (K_line T i k0 w D ro wo ws be sz st u).2.2.2.2.2.1)) ∧ τ.2 (x + 96 + 3) = some (.inl (0, 272, (K_line T i k0 w D ro wo ws be sz st u).2.2.2.2.2.2.1)) ∧ τ.2 (x + 96 + 4) = some (.inl (0, 119, (K_line T i k0 w D ro wo ws be sz st u).2.2.2.2.2.2.2.1)) ∧ τ.2 (x + 96 + 5) = some (.inl (0, 6, (K_line T i k0 w D ro wo ws be sz st u).2.2.2.2.2.2.2.2.1)) ∧ τ.2 (x + 96 + 6) = some (.inl (0, 6, (K_line T i k0 w D ro wo ws be sz st u).2.2.2.2.2.2.2.2.2.1)) ∧ isL τ (x + 96 + 7) (L_set D 3 ((K_line T i k0 w D ro wo ws be sz st u).2.2.2.2.2.2.2.2.2.2))) := by
  obtain ⟨rfl, hi⟩ := hg
  have hw1 := hw.2.1
  have hw2 := hw.2.2.1
  have hwS := hw.2.2.2.1 i hi
  have hn16 := hwS.1
  have hn5 := hwS.2.1
  unfold RetX
  generalize hQ : (fun (r : Option Value) (τ : ex_S) => r = some (.int ((K_line T i k0 w D ro wo ws be sz st u).1)) ∧ frm σ τ (x + 96) (x + 104) ∧ (fun τ : ex_S => τ.2 (x + 96) = some (.inr (.inr (6, [(.ref (x + 96 + 1)), (.ref (x + 96 + 2)), (.ref (x + 96 + 3)), (.ref (x + 96 + 4)), (.ref (x + 96 + 5)), (.ref (x + 96 + 6)), (.ref (x + 96 + 7)), (.int (nI ((K_line T i k0 w D ro wo ws be sz st u).2.1))), (.int (nI ((K_line T i k0 w D ro wo ws be sz st u).2.2.1))), (.int ((K_line T i k0 w D ro wo ws be sz st u).2.2.2.1))]))) ∧ τ.2 (x + 96 + 1) = some (.inl (0, 16, (K_line T i k0 w D ro wo ws be sz st u).2.2.2.2.1)) ∧ τ.2 (x + 96 + 2) = some (.inl (0, 272, (K_line T i k0 w D ro wo ws be sz st u).2.2.2.2.2.1)) ∧ τ.2 (x + 96 + 3) = some (.inl (0, 272, (K_line T i k0 w D ro wo ws be sz st u).2.2.2.2.2.2.1)) ∧ τ.2 (x + 96 + 4) = some (.inl (0, 119, (K_line T i k0 w D ro wo ws be sz st u).2.2.2.2.2.2.2.1)) ∧ τ.2 (x + 96 + 5) = some (.inl (0, 6, (K_line T i k0 w D ro wo ws be sz st u).2.2.2.2.2.2.2.2.1)) ∧ τ.2 (x + 96 + 6) = some (.inl (0, 6, (K_line T i k0 w D ro wo ws be sz st u).2.2.2.2.2.2.2.2.2.1)) ∧ isL τ (x + 96 + 7) (L_set D 3 ((K_line T i k0 w D ro wo ws be sz st u).2.2.2.2.2.2.2.2.2.2))) τ) = Q
  refine Ret.start pm_16 rfl ?_
  have fr : frm σ σ (x + 96) (x + 104) := frm.rf
  have hX := isX.frm hX0 fr (by omega)
  have hT := isT.frm hT0 fr (by omega)
  obtain ⟨t0, t1, ⟨fs, t2, t3⟩, ⟨fp, t4, t5⟩, t6, t7⟩ := id hT
  have hSi := t6 i (by omega)
  obtain ⟨h0, h1, h2, h3, h4, h5, h6', h7, h8, h9, h10⟩ := id hSi
  refine Ev.aload_n rfl rfl ?_
  refine Ev.getf rfl rfl hX rfl ?_
  refine Ev.iload_n rfl rfl ?_
  refine Ev.cV1 rfl rfl t0 rfl rfl (by decide) ⟨(Nat.le_refl _), (Nat.le_refl _)⟩ (schoolAt_some hT hw1 hi) ?_
  refine Ev.astore rfl rfl rfl ?_
  refine Ev.aload rfl rfl ?_
  refine Ev.ifnull rfl ?_
  refine Ev.iload_n rfl rfl ?_
  refine Ev.iconst (v := 1) rfl (by decide) ?_
  refine Ev.jlt (tgt := 26) rfl (by decide) (fun c17 => absurd c17 (nI_nlt (b := 1) hk1 (by omega))) (fun c17 => ?_)
  refine Ev.iload_n rfl rfl ?_
  refine Ev.bipush (v := 6) rfl (by decide) ?_
  refine Ev.jle (tgt := 28) rfl (by decide) (fun c23 => ?_) (fun c23 => absurd c23 (nI_nlt (a := 6) hk6 (by omega)))
  refine Ev.aload_n rfl rfl ?_
  refine Ev.getf rfl rfl hX rfl ?_
  refine Ev.aload rfl rfl ?_
  refine Ev.xV1u rfl rfl hln rfl rfl (by decide) ⟨(Nat.le_refl _), (Nat.le_refl _)⟩ (weigh_ok hln h_row h_worth h_wst h_best h_sizes h_stp htr hD hSi hwS (by omega)) (fun τ1 f1 q1 => ?_)
  obtain ⟨hln, h_row, h_worth, h_wst, htr, h_best, h_sizes, h_stp⟩ := q1
  have fr := fr.step f1 (by omega) (by omega)
  have hX := isX.frm hX0 fr (by omega)
  have hT := isT.frm hT0 fr (by omega)
  obtain ⟨t0, t1, ⟨fs, t2, t3⟩, ⟨fp, t4, t5⟩, t6, t7⟩ := id hT
  have hSi := t6 i (by omega)
  obtain ⟨h0, h1, h2, h3, h4, h5, h6', h7, h8, h9, h10⟩ := id hSi
  have hwv := weigh_wv (D := D) (ro := ro) (wo := wo) (ws := ws) (u := u) hwS
  have hwn := (weigh_sem (D := D) (ro := ro) (wo := wo) (ws := ws) (u := u) hwS).1
  have hn16 := hwS.1
  refine Ev.aload_n rfl rfl ?_
  refine Ev.getf rfl rfl hX rfl ?_
  refine Ev.aload rfl rfl ?_
  refine Ev.iload_n rfl rfl ?_
  refine Ev.xV2 rfl rfl hln rfl rfl (by decide) ⟨(Nat.le_refl _), (Nat.le_refl _)⟩ (cut_ok hln h_row h_worth h_wst h_best h_sizes h_stp htr hD hSi hwS (by omega) (by omega) hk1 hk6 hwv) (fun τ2 f1 q1 => ?_)
  obtain ⟨hln, h_best, h_sizes, h_stp, h_row, h_worth, h_wst, htr⟩ := q1
  have fr := fr.step f1 (by omega) (by omega)
  have hX := isX.frm hX0 fr (by omega)
  have hT := isT.frm hT0 fr (by omega)
  obtain ⟨t0, t1, ⟨fs, t2, t3⟩, ⟨fp, t4, t5⟩, t6, t7⟩ := id hT
  have hSi := t6 i (by omega)
  obtain ⟨h0, h1, h2, h3, h4, h5, h6', h7, h8, h9, h10⟩ := id hSi
  have hcl := cut_le (S := (tS T i)) (n0 := ((K_weigh (tS T i) D ro wo ws u).1)) (k0 := k0) (wo := (K_weigh (tS T i) D ro wo ws u).2.2.1) (ws := (K_weigh (tS T i) D ro wo ws u).2.2.2.1) (be := be) (sz := sz) (st := st) (by omega) hwS hk1 hk6 hwv
  refine Ev.zeq (tgt := 61) rfl (by decide) (fun c47 => ?_) (fun c47 => ?_)
  · skip
    refine Ev.iconst (v := (-1)) rfl (by decide) ?_
    refine Ev.iret (ty := .int) rfl rfl rfl (Nat.le_refl _) (Nat.le_refl _) ?_
    have hK : (K_line T i k0 w D ro wo ws be sz st u) = ((-1 : Int32), (K_weigh (tS T i) D ro wo ws u).1, (K_cut (tS T i) ((K_weigh (tS T i) D ro wo ws u).1) k0 ((K_weigh (tS T i) D ro wo ws u).2.2.1) ((K_weigh (tS T i) D ro wo ws u).2.2.2.1) be sz st).2.1, (K_cut (tS T i) ((K_weigh (tS T i) D ro wo ws u).1) k0 ((K_weigh (tS T i) D ro wo ws u).2.2.1) ((K_weigh (tS T i) D ro wo ws u).2.2.2.1) be sz st).2.2.1, (K_weigh (tS T i) D ro wo ws u).2.1, (K_weigh (tS T i) D ro wo ws u).2.2.1, (K_weigh (tS T i) D ro wo ws u).2.2.2.1, (K_cut (tS T i) ((K_weigh (tS T i) D ro wo ws u).1) k0 ((K_weigh (tS T i) D ro wo ws u).2.2.1) ((K_weigh (tS T i) D ro wo ws u).2.2.2.1) be sz st).2.2.2.1, (K_cut (tS T i) ((K_weigh (tS T i) D ro wo ws u).1) k0 ((K_weigh (tS T i) D ro wo ws u).2.2.1) ((K_weigh (tS T i) D ro wo ws u).2.2.2.1) be sz st).2.2.2.2.1, (K_cut (tS T i) ((K_weigh (tS T i) D ro wo ws u).1) k0 ((K_weigh (tS T i) D ro wo ws u).2.2.1) ((K_weigh (tS T i) D ro wo ws u).2.2.2.1) be sz st).2.2.2.2.2, (K_weigh (tS T i) D ro wo ws u).2.2.2.2) := by
      unfold K_line
      rw [if_pos c47]
    rw [← hQ]
    dsimp only
    rw [hK]
    exact ⟨rfl, fr, hln, h_row, h_worth, h_wst, h_best, h_sizes, h_stp, htr⟩
  · skip
    refine Ev.aload_n rfl rfl ?_
    refine Ev.getf rfl rfl hX rfl ?_
    refine Ev.iload_n rfl rfl ?_
    refine Ev.cV1 rfl rfl hln rfl rfl (by decide) ⟨(Nat.le_refl _), (Nat.le_refl _)⟩ (told_ln hln h_row h_worth h_wst h_best h_sizes h_stp htr hD (by omega) (by omega) _) ?_
    refine Ev.goto (tgt := 62) rfl (by decide) ?_
    refine Ev.iret (ty := .int) rfl rfl rfl (Nat.le_refl _) (Nat.le_refl _) ?_
    have hK : (K_line T i k0 w D ro wo ws be sz st u) = (K_toldL ((K_weigh (tS T i) D ro wo ws u).1) ((K_cut (tS T i) ((K_weigh (tS T i) D ro wo ws u).1) k0 ((K_weigh (tS T i) D ro wo ws u).2.2.1) ((K_weigh (tS T i) D ro wo ws u).2.2.2.1) be sz st).2.1) ((K_cut (tS T i) ((K_weigh (tS T i) D ro wo ws u).1) k0 ((K_weigh (tS T i) D ro wo ws u).2.2.1) ((K_weigh (tS T i) D ro wo ws u).2.2.2.1) be sz st).2.2.1) ((K_weigh (tS T i) D ro wo ws u).2.1) ((K_cut (tS T i) ((K_weigh (tS T i) D ro wo ws u).1) k0 ((K_weigh (tS T i) D ro wo ws u).2.2.1) ((K_weigh (tS T i) D ro wo ws u).2.2.2.1) be sz st).2.2.2.2.1) ((K_cut (tS T i) ((K_weigh (tS T i) D ro wo ws u).1) k0 ((K_weigh (tS T i) D ro wo ws u).2.2.1) ((K_weigh (tS T i) D ro wo ws u).2.2.2.1) be sz st).2.2.2.2.2) w, (K_weigh (tS T i) D ro wo ws u).1, (K_cut (tS T i) ((K_weigh (tS T i) D ro wo ws u).1) k0 ((K_weigh (tS T i) D ro wo ws u).2.2.1) ((K_weigh (tS T i) D ro wo ws u).2.2.2.1) be sz st).2.1, (K_cut (tS T i) ((K_weigh (tS T i) D ro wo ws u).1) k0 ((K_weigh (tS T i) D ro wo ws u).2.2.1) ((K_weigh (tS T i) D ro wo ws u).2.2.2.1) be sz st).2.2.1, (K_weigh (tS T i) D ro wo ws u).2.1, (K_weigh (tS T i) D ro wo ws u).2.2.1, (K_weigh (tS T i) D ro wo ws u).2.2.2.1, (K_cut (tS T i) ((K_weigh (tS T i) D ro wo ws u).1) k0 ((K_weigh (tS T i) D ro wo ws u).2.2.1) ((K_weigh (tS T i) D ro wo ws u).2.2.2.1) be sz st).2.2.2.1, (K_cut (tS T i) ((K_weigh (tS T i) D ro wo ws u).1) k0 ((K_weigh (tS T i) D ro wo ws u).2.2.1) ((K_weigh (tS T i) D ro wo ws u).2.2.2.1) be sz st).2.2.2.2.1, (K_cut (tS T i) ((K_weigh (tS T i) D ro wo ws u).1) k0 ((K_weigh (tS T i) D ro wo ws u).2.2.1) ((K_weigh (tS T i) D ro wo ws u).2.2.2.1) be sz st).2.2.2.2.2, (K_weigh (tS T i) D ro wo ws u).2.2.2.2) := by
      unfold K_line
      rw [if_neg c47]
    rw [← hQ]
    dsimp only
    rw [hK]
    exact ⟨rfl, fr, hln, h_row, h_worth, h_wst, h_best, h_sizes, h_stp, htr⟩
end
end
