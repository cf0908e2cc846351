/-! Both answer alike: what writes the tape or a bench of a plan, and order. -/
noncomputable section
section
variable {Γ : ex_G} {σ : ex_S} {x q a p y : Nat} {S : Sch} {T : Tol} {P : Pln} {g A : Nat → Int32}
theorem order_nn (hX : isX σ x) (hT : isT σ (x + 1) T) (hw : wT T) {u v : Int32} (hg : ¬ ∃ i j, gd T u v i j) {w : Int32} (hg2 : ¬ ∃ i j, gd T u w i j) : RetV Γ m_SD_order [.ref x, .int u, .int v, .int w] σ (.int (-1)) := by
  unfold isX at hX
  obtain ⟨t0, t1, ⟨fs, t2, t3⟩, ⟨fp, t4, t5⟩, t6, t7⟩ := id hT
  unfold RetV
  generalize hQ : (fun (r : Option Value) (σ' : ex_S) => r = some ((.int (-1)) : Value) ∧ σ' = σ) = Q
  refine Ret.start pm_33 rfl ?_
  have hw1 := hw.2.1
  rcases ix_cases u (n := tSn T) (by omega) with hu | hu | ⟨i, hi, rfl⟩
  · skip
    refine Ev.aload_n rfl rfl ?_
    refine Ev.iload_n rfl rfl ?_
    refine Ev.iload_n rfl rfl ?_
    refine Ev.cV2 rfl rfl (by assumption) rfl rfl (by decide) ⟨(Nat.le_refl _), (Nat.le_refl _)⟩ (going_none hX hT hw hg) ?_
    refine Ev.astoreN rfl rfl rfl ?_
    refine Ev.aload_n rfl rfl ?_
    refine Ev.iload_n rfl rfl ?_
    refine Ev.iload_n rfl rfl ?_
    refine Ev.cV2 rfl rfl (by assumption) rfl rfl (by decide) ⟨(Nat.le_refl _), (Nat.le_refl _)⟩ (going_none hX hT hw hg2) ?_
    refine Ev.astoreN rfl rfl rfl ?_
    refine Ev.aload_n rfl rfl ?_
    refine Ev.getf rfl rfl (by assumption) rfl ?_
    refine Ev.iload_n rfl rfl ?_
    refine Ev.cV1 rfl rfl (by assumption) rfl rfl (by decide) ⟨(Nat.le_refl _), (Nat.le_refl _)⟩ (schoolAt_none hT (Or.inl hu)) ?_
    refine Ev.astoreN rfl rfl rfl ?_
    refine Ev.aloadN rfl rfl ?_
    refine Ev.ifnullN (tgt := 41) rfl (by decide) ?_
    refine Ev.iconst (v := (-1)) rfl (by decide) ?_
    refine Ev.iret (ty := .int) rfl rfl rfl (Nat.le_refl _) (Nat.le_refl _) ?_
    rw [← hQ]
    exact ⟨rfl, rfl⟩
  · skip
    refine Ev.aload_n rfl rfl ?_
    refine Ev.iload_n rfl rfl ?_
    refine Ev.iload_n rfl rfl ?_
    refine Ev.cV2 rfl rfl (by assumption) rfl rfl (by decide) ⟨(Nat.le_refl _), (Nat.le_refl _)⟩ (going_none hX hT hw hg) ?_
    refine Ev.astoreN rfl rfl rfl ?_
    refine Ev.aload_n rfl rfl ?_
    refine Ev.iload_n rfl rfl ?_
    refine Ev.iload_n rfl rfl ?_
    refine Ev.cV2 rfl rfl (by assumption) rfl rfl (by decide) ⟨(Nat.le_refl _), (Nat.le_refl _)⟩ (going_none hX hT hw hg2) ?_
    refine Ev.astoreN rfl rfl rfl ?_
    refine Ev.aload_n rfl rfl ?_
    refine Ev.getf rfl rfl (by assumption) rfl ?_
    refine Ev.iload_n rfl rfl ?_
    refine Ev.cV1 rfl rfl (by assumption) rfl rfl (by decide) ⟨(Nat.le_refl _), (Nat.le_refl _)⟩ (schoolAt_none hT (Or.inr hu)) ?_
    refine Ev.astoreN rfl rfl rfl ?_
    refine Ev.aloadN rfl rfl ?_
    refine Ev.ifnullN (tgt := 41) rfl (by decide) ?_
    refine Ev.iconst (v := (-1)) rfl (by decide) ?_
    refine Ev.iret (ty := .int) rfl rfl rfl (Nat.le_refl _) (Nat.le_refl _) ?_
    rw [← hQ]
    exact ⟨rfl, rfl⟩
  · skip
    refine Ev.aload_n rfl rfl ?_
    refine Ev.iload_n rfl rfl ?_
    refine Ev.iload_n rfl rfl ?_
    refine Ev.cV2 rfl rfl (by assumption) rfl rfl (by decide) ⟨(Nat.le_refl _), (Nat.le_refl _)⟩ (going_none hX hT hw hg) ?_
    refine Ev.astoreN rfl rfl rfl ?_
    refine Ev.aload_n rfl rfl ?_
    refine Ev.iload_n rfl rfl ?_
    refine Ev.iload_n rfl rfl ?_
    refine Ev.cV2 rfl rfl (by assumption) rfl rfl (by decide) ⟨(Nat.le_refl _), (Nat.le_refl _)⟩ (going_none hX hT hw hg2) ?_
    refine Ev.astoreN rfl rfl rfl ?_
    refine Ev.aload_n rfl rfl ?_
    refine Ev.getf rfl rfl (by assumption) rfl ?_
    refine Ev.iload_n rfl rfl ?_
    refine Ev.cV1 rfl rfl (by assumption) rfl rfl (by decide) ⟨(Nat.le_refl _), (Nat.le_refl _)⟩ (schoolAt_some hT hw1 hi) ?_
    refine Ev.astore rfl rfl rfl ?_
    refine Ev.aloadN rfl rfl ?_
    refine Ev.ifnullN (tgt := 41) rfl (by decide) ?_
    refine Ev.iconst (v := (-1)) rfl (by decide) ?_
    refine Ev.iret (ty := .int) rfl rfl rfl (Nat.le_refl _) (Nat.le_refl _) ?_
    rw [← hQ]
    exact ⟨rfl, rfl⟩
theorem order_ng (hX : isX σ x) (hT : isT σ (x + 1) T) (hw : wT T) {u v : Int32} (hg : ¬ ∃ i j, gd T u v i j) {w : Int32} {i2 j2 : Nat} (hg2 : gd T u w i2 j2) : RetV Γ m_SD_order [.ref x, .int u, .int v, .int w] σ (.int (-1)) := by
  unfold isX at hX
  obtain ⟨t0, t1, ⟨fs, t2, t3⟩, ⟨fp, t4, t5⟩, t6, t7⟩ := id hT
  unfold RetV
  generalize hQ : (fun (r : Option Value) (σ' : ex_S) => r = some ((.int (-1)) : Value) ∧ σ' = σ) = Q
  refine Ret.start pm_33 rfl ?_
  have hw1 := hw.2.1
  rcases ix_cases u (n := tSn T) (by omega) with hu | hu | ⟨i, hi, rfl⟩
  · skip
    refine Ev.aload_n rfl rfl ?_
    refine Ev.iload_n rfl rfl ?_
    refine Ev.iload_n rfl rfl ?_
    refine Ev.cV2 rfl rfl (by assumption) rfl rfl (by decide) ⟨(Nat.le_refl _), (Nat.le_refl _)⟩ (going_none hX hT hw hg) ?_
    refine Ev.astoreN rfl rfl rfl ?_
    refine Ev.aload_n rfl rfl ?_
    refine Ev.iload_n rfl rfl ?_
    refine Ev.iload_n rfl rfl ?_
    refine Ev.cV2 rfl rfl (by assumption) rfl rfl (by decide) ⟨(Nat.le_refl _), (Nat.le_refl _)⟩ (going_some hX hT hw hg2) ?_
    refine Ev.astore rfl rfl rfl ?_
    refine Ev.aload_n rfl rfl ?_
    refine Ev.getf rfl rfl (by assumption) rfl ?_
    refine Ev.iload_n rfl rfl ?_
    refine Ev.cV1 rfl rfl (by assumption) rfl rfl (by decide) ⟨(Nat.le_refl _), (Nat.le_refl _)⟩ (schoolAt_none hT (Or.inl hu)) ?_
    refine Ev.astoreN rfl rfl rfl ?_
    refine Ev.aloadN rfl rfl ?_
    refine Ev.ifnullN (tgt := 41) rfl (by decide) ?_
    refine Ev.iconst (v := (-1)) rfl (by decide) ?_
    refine Ev.iret (ty := .int) rfl rfl rfl (Nat.le_refl _) (Nat.le_refl _) ?_
    rw [← hQ]
    exact ⟨rfl, rfl⟩
  · skip
    refine Ev.aload_n rfl rfl ?_
    refine Ev.iload_n rfl rfl ?_
    refine Ev.iload_n rfl rfl ?_
    refine Ev.cV2 rfl rfl (by assumption) rfl rfl (by decide) ⟨(Nat.le_refl _), (Nat.le_refl _)⟩ (going_none hX hT hw hg) ?_
    refine Ev.astoreN rfl rfl rfl ?_
    refine Ev.aload_n rfl rfl ?_
    refine Ev.iload_n rfl rfl ?_
    refine Ev.iload_n rfl rfl ?_
    refine Ev.cV2 rfl rfl (by assumption) rfl rfl (by decide) ⟨(Nat.le_refl _), (Nat.le_refl _)⟩ (going_some hX hT hw hg2) ?_
    refine Ev.astore rfl rfl rfl ?_
    refine Ev.aload_n rfl rfl ?_
    refine Ev.getf rfl rfl (by assumption) rfl ?_
    refine Ev.iload_n rfl rfl ?_
    refine Ev.cV1 rfl rfl (by assumption) rfl rfl (by decide) ⟨(Nat.le_refl _), (Nat.le_refl _)⟩ (schoolAt_none hT (Or.inr hu)) ?_
    refine Ev.astoreN rfl rfl rfl ?_
    refine Ev.aloadN rfl rfl ?_
    refine Ev.ifnullN (tgt := 41) rfl (by decide) ?_
    refine Ev.iconst (v := (-1)) rfl (by decide) ?_
    refine Ev.iret (ty := .int) rfl rfl rfl (Nat.le_refl _) (Nat.le_refl _) ?_
    rw [← hQ]
    exact ⟨rfl, rfl⟩
  · skip
    refine Ev.aload_n rfl rfl ?_
    refine Ev.iload_n rfl rfl ?_
    refine Ev.iload_n rfl rfl ?_
    refine Ev.cV2 rfl rfl (by assumption) rfl rfl (by decide) ⟨(Nat.le_refl _), (Nat.le_refl _)⟩ (going_none hX hT hw hg) ?_
    refine Ev.astoreN rfl rfl rfl ?_
    refine Ev.aload_n rfl rfl ?_
    refine Ev.iload_n rfl rfl ?_
    refine Ev.iload_n rfl rfl ?_
    refine Ev.cV2 rfl rfl (by assumption) rfl rfl (by decide) ⟨(Nat.le_refl _), (Nat.le_refl _)⟩ (going_some hX hT hw hg2) ?_
    refine Ev.astore rfl rfl rfl ?_
    refine Ev.aload_n rfl rfl ?_
    refine Ev.getf rfl rfl (by assumption) rfl ?_
    refine Ev.iload_n rfl rfl ?_
    refine Ev.cV1 rfl rfl (by assumption) rfl rfl (by decide) ⟨(Nat.le_refl _), (Nat.le_refl _)⟩ (schoolAt_some hT hw1 hi) ?_
    refine Ev.astore rfl rfl rfl ?_
    refine Ev.aloadN rfl rfl ?_
    refine Ev.ifnullN (tgt := 41) rfl (by decide) ?_
    refine Ev.iconst (v := (-1)) rfl (by decide) ?_
    refine Ev.iret (ty := .int) rfl rfl rfl (Nat.le_refl _) (Nat.le_refl _) ?_
    rw [← hQ]
    exact ⟨rfl, rfl⟩
theorem order_gn_some (hX : isX σ x) (hT : isT σ (x + 1) T) (hw : wT T) {u v : Int32} {i j : Nat} (hg : gd T u v i j) {w : Int32} (hg2 : ¬ ∃ i j, gd T u w i j) : RetV Γ m_SD_order [.ref x, .int u, .int v, .int w] σ (.int (-1)) := by
  unfold isX at hX
  obtain ⟨t0, t1, ⟨fs, t2, t3⟩, ⟨fp, t4, t5⟩, t6, t7⟩ := id hT
  unfold RetV
  generalize hQ : (fun (r : Option Value) (σ' : ex_S) => r = some ((.int (-1)) : Value) ∧ σ' = σ) = Q
  refine Ret.start pm_33 rfl ?_
  obtain ⟨rfl, hi, rfl, hj, hgo⟩ := hg
  have hw1 := hw.2.1
  have hw2 := hw.2.2.1
  have hwS := hw.2.2.2.1 i hi
  have hwP := hw.2.2.2.2 j hj
  have hn16 := hwS.1
  have hn5 := hwS.2.1
  have h6 := hwP.1
  have hSi := t6 i (by omega)
  have hPj := t7 j (by omega)
  have hokL : ∀ k, k < (tP T j).1 → okL (tS T i) ((tP T j).2 k) := fun k hk => goT_okL hwS (hgo k hk).1
  obtain ⟨h0, h1, h2, h3, h4, h5, h6', h7, h8, h9, h10⟩ := id hSi
  obtain ⟨p0, ⟨pf, p1, p2⟩, p3⟩ := id hPj
  refine Ev.aload_n rfl rfl ?_
  refine Ev.iload_n rfl rfl ?_
  refine Ev.iload_n rfl rfl ?_
  refine Ev.cV2 rfl rfl (by assumption) rfl rfl (by decide) ⟨(Nat.le_refl _), (Nat.le_refl _)⟩ (going_some hX hT hw ⟨rfl, hi, rfl, hj, hgo⟩) ?_
  refine Ev.astore rfl rfl rfl ?_
  refine Ev.aload_n rfl rfl ?_
  refine Ev.iload_n rfl rfl ?_
  refine Ev.iload_n rfl rfl ?_
  refine Ev.cV2 rfl rfl (by assumption) rfl rfl (by decide) ⟨(Nat.le_refl _), (Nat.le_refl _)⟩ (going_none hX hT hw hg2) ?_
  refine Ev.astoreN rfl rfl rfl ?_
  refine Ev.aload_n rfl rfl ?_
  refine Ev.getf rfl rfl (by assumption) rfl ?_
  refine Ev.iload_n rfl rfl ?_
  refine Ev.cV1 rfl rfl (by assumption) rfl rfl (by decide) ⟨(Nat.le_refl _), (Nat.le_refl _)⟩ (schoolAt_some hT hw1 hi) ?_
  refine Ev.astore rfl rfl rfl ?_
  refine Ev.aload rfl rfl ?_
  refine Ev.ifnull rfl ?_
  refine Ev.aloadN rfl rfl ?_
  refine Ev.ifnullN (tgt := 41) rfl (by decide) ?_
  refine Ev.iconst (v := (-1)) rfl (by decide) ?_
  refine Ev.iret (ty := .int) rfl rfl rfl (Nat.le_refl _) (Nat.le_refl _) ?_
  rw [← hQ]
  exact ⟨rfl, rfl⟩
theorem m_order_gn (hM : isM σ y g A) (hT : mT A 0 T) (hw : wT T) {u v : Int32} {i j : Nat} (hg : gd T u v i j) {w : Int32} (hg2 : ¬ ∃ i j, gd T u w i j) : RetV Γ m_M_order [.ref y, .int u, .int v, .int w] σ (.int (-1)) := by
  obtain ⟨m0, m1⟩ := id hM
  unfold RetV
  generalize hQ : (fun (r : Option Value) (σ' : ex_S) => r = some ((.int (-1)) : Value) ∧ σ' = σ) = Q
  refine Ret.start pm_262 rfl ?_
  refine Ev.aload_n rfl rfl ?_
  refine Ev.iload_n rfl rfl ?_
  refine Ev.iload_n rfl rfl ?_
  refine Ev.cV2 rfl rfl (by assumption) rfl rfl (by decide) ⟨(Nat.le_refl _), (Nat.le_refl _)⟩ (m_goes_yes hM hT hw hg) ?_
  refine Ev.if_eq (tgt := 18) rfl (by decide) (fun c6 => absurd c6 (by decide)) (fun c6 => ?_)
  refine Ev.aload_n rfl rfl ?_
  refine Ev.iload_n rfl rfl ?_
  refine Ev.iload_n rfl rfl ?_
  refine Ev.cV2 rfl rfl (by assumption) rfl rfl (by decide) ⟨(Nat.le_refl _), (Nat.le_refl _)⟩ (m_goes_no hM hT hw hg2) ?_
  refine Ev.if_ne (tgt := 20) rfl (by decide) (fun c15 => absurd rfl c15) (fun c15 => ?_)
  refine Ev.iconst (v := (-1)) rfl (by decide) ?_
  refine Ev.iret (ty := .int) rfl rfl rfl (Nat.le_refl _) (Nat.le_refl _) ?_
  rw [← hQ]
  exact ⟨rfl, rfl⟩
end
theorem gd_same {T : Tol} {u v w : Int32} {i j i2 j2 : Nat} (hw : wT T) (h : gd T u v i j) (h2 : gd T u w i2 j2) : gd T u w i j2 := by
  obtain ⟨e, hi, -⟩ := h
  obtain ⟨e2, hi2, h2⟩ := h2
  have hw1 := hw.2.1
  have ei : i2 = i := by
    have q : (nI i2).toInt = (nI i).toInt := by rw [← e, ← e2]
    rw [nI_toInt (by omega), nI_toInt (by omega)] at q
    omega
  subst ei
  exact ⟨e, hi2, h2⟩
theorem pr_order {Γ : ex_G} {x : Nat} (u v : Int32) (w : Int32) : Pair Γ x m_SD_order m_M_order [.int u, .int v, .int w] := by
  intro σ T I h
  obtain ⟨hX, hT, hw⟩ := h.c
  have hIw := h.2.2.2.2.1
  by_cases hg : ∃ i j, gd T u v i j
  · obtain ⟨i, j, hg⟩ := hg
    have hwS := hw.2.2.2.1 i hg.2.1
    have hwP := hw.2.2.2.2 j hg.2.2.2.1
    have hgo := hg.2.2.2.2
    have hn16 := hwS.1
    have h6 := hwP.1
    by_cases hg2 : ∃ i j, gd T u w i j
    · obtain ⟨i2, j2, hg2⟩ := hg2
      have hg2 := gd_same hw hg hg2
      obtain ⟨D, hsp⟩ := h.sp
      refine ⟨_, T, I, CallC.X h (order_some hX hT hw hg hg2 hsp) (by omega) (fun τ f r => h.1.upcS f ⟨_, r⟩), fun τ hτ => ?_⟩
      obtain ⟨g, A, hs, rd, al, bs, bm, bz, tr, rw, op, lo, me, pb, pw, st, en, hM, hmT, -, b0, b1, b2, b3, b4, b5, b6, b7, b8, b9, b10, b11, b12, b13, b14, -, -⟩ := id hτ.2.1
      have hr := m_order_some (Γ := Γ) hM hmT hw b7 hg hg2
      rw [order_eq hn16] at hr
      refine CallM.X hτ hr ⟨by omega, by omega⟩ (fun υ f r => ?_)
      obtain ⟨⟨⟨A1, q1, q2, -⟩, -⟩, q3, q4⟩ := r
      exact hτ.2.1.tried hw hIw hM.2 q1 q2 q3 q4
    · skip
      refine ⟨_, T, I, CallC.pure h (order_gn_some hX hT hw hg hg2), fun τ hτ => ?_⟩
      obtain ⟨g, A, hM, hmT⟩ := hτ.m
      exact CallM.pure hτ (m_order_gn hM hmT hw hg hg2)
  · skip
    by_cases hg2 : ∃ i j, gd T u w i j
    · obtain ⟨i2, j2, hg2⟩ := hg2
      refine ⟨_, T, I, CallC.pure h (order_ng hX hT hw hg hg2), fun τ hτ => ?_⟩
      obtain ⟨g, A, hM, hmT⟩ := hτ.m
      exact CallM.pure hτ (m_order_none hM hmT hw hg w)
    · skip
      refine ⟨_, T, I, CallC.pure h (order_nn hX hT hw hg hg2), fun τ hτ => ?_⟩
      obtain ⟨g, A, hM, hmT⟩ := hτ.m
      exact CallM.pure hτ (m_order_none hM hmT hw hg w)
theorem RetB.X {Γ : ex_G} {z lo hi : Nat} {as : List Value} {σ σ1 : ex_S} {v : Value} (h : RetB Γ z as σ v σ1) (hf : frm σ σ1 lo hi) : RetX Γ z as σ lo hi (some v) (fun τ => τ = σ1) := by
  refine Ret.imp h (fun r τ q => ?_)
  obtain ⟨q1, q2⟩ := q
  subst q2
  exact ⟨q1, hf, rfl⟩
theorem CallC.T {Γ : ex_G} {x z lo hi : Nat} {as : List Value} {σ : ex_S} {v : Int32} {T T' : Tol} {I : Nat → Option Tol} {Rr : ex_S → Prop} (h : Inv σ x T I) (hr : RetX Γ z (.ref x :: as) σ lo hi (some (.int v)) Rr) (hb : x + 1 ≤ lo ∧ hi ≤ x + 62) (hC : ∀ τ, frm σ τ lo hi → Rr τ → isT τ (x + 1) T') : CallC Γ x z as σ v T T' I I := by
  refine ⟨0, 0, by omega, by omega, Ret.imp hr (fun r τ q => ?_)⟩
  obtain ⟨q1, q2, q3⟩ := q
  obtain ⟨hc, hm, h3, h4, h5, h6⟩ := h
  exact ⟨q1, hc.upT (q2.mono hb.1 hb.2) (hC τ q2 q3), hm.cls q2 (by omega), h3, h4, h5, by rw [q2.1]; exact h6⟩
theorem InvM.setA {σ τ : ex_S} {y : Nat} {T T' : Tol} {I : Nat → Option Tol} {A A1 : Nat → Int32} (h : InvM σ y T I) (hIw : ∀ k U, k < 3 → I k = some U → wT U ∧ fitT U) (hA0 : σ.2 (y + 1) = some (.inl (0, 4500, A))) (hA1 : τ.2 (y + 1) = some (.inl (0, 4500, A1))) (hk : ∀ q, 1090 ≤ q → q < 4360 → A1 q = A q) (hm : mT A1 0 T') {f : Nat → Int32} (hrow : τ.2 (y + 9) = some (.inl (0, 16, f))) (hq : ∀ q, q ≠ y + 1 → q ≠ y + 9 → τ.2 q = σ.2 q) : InvM τ y T' I := by
  obtain ⟨g, A', hs, rd, al, bs, bm, bz, tr, rw, op, lo, me, pb, pw, st, en, ⟨a1, a2⟩, a3, a4, b0, b1, b2, b3, b4, b5, b6, b7, b8, b9, b10, b11, b12, b13, b14, z1, z2⟩ := h
  have eA : A' = A := by
    rw [hA0] at a2
    cases a2
    rfl
  subst eA
  exact ⟨g, A1, hs, rd, al, bs, bm, bz, tr, f, op, lo, me, pb, pw, st, en, ⟨(hq _ (by omega) (by omega)).trans a1, hA1⟩, hm, fun k U h3 hU => (a4 k U h3 hU).mv (hIw k U h3 hU).1 (fun q h1 => hk _ (by omega) (by omega)), (hq _ (by omega) (by omega)).trans b0, (hq _ (by omega) (by omega)).trans b1, (hq _ (by omega) (by omega)).trans b2, (hq _ (by omega) (by omega)).trans b3, (hq _ (by omega) (by omega)).trans b4, (hq _ (by omega) (by omega)).trans b5, (hq _ (by omega) (by omega)).trans b6, hrow, (hq _ (by omega) (by omega)).trans b8, (hq _ (by omega) (by omega)).trans b9, (hq _ (by omega) (by omega)).trans b10, (hq _ (by omega) (by omega)).trans b11, (hq _ (by omega) (by omega)).trans b12, (hq _ (by omega) (by omega)).trans b13, (hq _ (by omega) (by omega)).trans b14, z1, z2⟩
theorem CallM.A {Γ : ex_G} {x z : Nat} {as : List Value} {σ : ex_S} {v : Int32} {T T' : Tol} {I : Nat → Option Tol} {A A1 g : Nat → Int32} (h : Mid σ x T T' I I) (hM : isM σ (x + 117) g A) (hr : RetX Γ z (.ref (x + 117) :: as) σ (x + 117 + 1) (x + 117 + 2) (some (.int v)) (fun τ => τ.2 (x + 117 + 1) = some (.inl (0, 4500, A1)))) (hm : mT A1 0 T') (hk : ∀ q, 1090 ≤ q → q < 4360 → A1 q = A q) (hw : wT T') (hf : fitT T') : CallM Γ x z as σ v T' I := by
  refine Ret.imp hr (fun r τ q => ?_)
  obtain ⟨q1, q2, q3⟩ := q
  obtain ⟨hc, hM0, h3, h4, h5, h6⟩ := h
  obtain ⟨g0, A0, hs, rd, al, bs, bm, bz, tr, rw, op, lo, me, pb, pw, st, en, -, -, -, -, -, -, -, -, -, -, b7, -⟩ := id hM0
  exact ⟨q1, hc.ref (q2.mono (by omega) (by omega)), hM0.setA h5 hM.2 q3 hk hm (f := rw) ((q2.2 _ (by omega)).trans b7) (fun q h1 _ => q2.2 q (by omega)), hw, hf, h5, by rw [q2.1]; exact h6⟩
theorem CallM.B {Γ : ex_G} {x z : Nat} {as : List Value} {σ : ex_S} {v : Int32} {T T' : Tol} {I : Nat → Option Tol} {A A1 g : Nat → Int32} (h : Mid σ x T T' I I) (hM : isM σ (x + 117) g A) (hr : RetB Γ z (.ref (x + 117) :: as) σ (.int v) (ex_put σ (x + 117 + 1) (.inl (0, 4500, A1)))) (hm : mT A1 0 T') (hk : ∀ q, 1090 ≤ q → q < 4360 → A1 q = A q) (hw : wT T') (hf : fitT T') : CallM Γ x z as σ v T' I := by
  refine CallM.A h hM (Ret.imp (hr.X (frm.rf.put (lo := x + 117 + 1) (hi := x + 117 + 2) (Nat.le_refl _) (by omega))) (fun r τ q => ?_)) hm hk hw hf
  obtain ⟨q1, q2, q3⟩ := q
  subst q3
  exact ⟨q1, q2, ex_put_eq⟩
theorem pr_end {Γ : ex_G} {x : Nat} (n : Int32) : Pair Γ x m_SD_end m_M_end [.int n] := by
  intro σ T I h
  obtain ⟨hX, hT, hw⟩ := h.c
  have hIw := h.2.2.2.2.1
  have hw0 := hw.1
  rcases int_cases (w := n) (x := 0) (y := nI (tN T)) (a := 0) (b := tN T) rfl rfl (by omega) (by omega) with hb | ⟨hc, hb⟩ | ⟨n, -, hn, rfl⟩
  · skip
    refine ⟨_, T, I, CallC.pure h (end_no hX hT hw (Or.inl hb)), fun τ hτ => ?_⟩
    obtain ⟨g, A, hM, hmT⟩ := hτ.m
    exact CallM.pure hτ (m_end_no hM hmT hw (Or.inl hb))
  · skip
    refine ⟨_, T, I, CallC.pure h (end_no hX hT hw (Or.inr hb)), fun τ hτ => ?_⟩
    obtain ⟨g, A, hM, hmT⟩ := hτ.m
    exact CallM.pure hτ (m_end_no hM hmT hw (Or.inr hb))
  · refine ⟨_, T_end T n, I, CallC.T (Rr := fun τ => τ = e_end σ (x + 1) T n) (lo := x + 1) (hi := x + 2) h ((end_yes hX hT hw hn).X (frm.rf.put (Nat.le_refl _) (by omega))) ⟨by omega, by omega⟩ (fun τ f r => by subst r; exact end_isT hT n), fun τ hτ => ?_⟩
    obtain ⟨g, A, hM, hmT⟩ := hτ.m
    exact CallM.B hτ hM (m_end_yes hM hmT hw hn) (end_mT hmT n) (fun q h1 _ => pk_un (by omega)) (end_wT hw hn) (fun i hi => h.2.2.2.1 i hi)
theorem byt_rg (v s : Int32) : rg (byt v s) (-128) 127 := by
  unfold byt
  have e : ((v >>> (s &&& 31)).toInt8.toInt32.toInt8.toInt32).toInt = (v >>> (s &&& 31)).toInt8.toInt32.toInt8.toInt := Int8.toInt_toInt32 _
  have h1 := Int8.le_toInt (v >>> (s &&& 31)).toInt8.toInt32.toInt8
  have h2 := Int8.toInt_lt (v >>> (s &&& 31)).toInt8.toInt32.toInt8
  refine ⟨?_, ?_⟩
  · rw [e]; omega
  · rw [e]; omega
def wf (T : Tol) : Prop := wT T ∧ fitT T
theorem wf_byte {T : Tol} (h : wf T) (hn : tN T < 600) (v s : Int32) : wf (T_byte T (byt v s)) := by
  refine ⟨⟨Nat.succ_le_of_lt hn, h.1.2⟩, fun i hi => ?_⟩
  show rg (upd (tB T) (tN T) (byt v s) i) (-128) 127
  by_cases c : i = tN T
  · subst c; rw [pk_us]; exact byt_rg v s
  · rw [pk_un c]; exact h.2 i hi
theorem wf_write {T : Tol} (h : wf T) (hn : tN T + 4 ≤ 600) (v : Int32) : wf (K_write T v) := by
  unfold K_write
  exact wf_byte (wf_byte (wf_byte (wf_byte h (by omega) _ _) (by rw [tN_byte]; omega) _ _) (by rw [tN_byte, tN_byte]; omega) _ _) (by rw [tN_byte, tN_byte, tN_byte]; omega) _ _
theorem wf_feed {T : Tol} (h : wf T) (hn : tN T + 20 ≤ 600) (a b c e f : Int32) : wf (K_feed T a b c e f).2 := by
  show wf (K_write (K_write (K_write (K_write (K_write T a) b) c) e) f)
  exact wf_write (wf_write (wf_write (wf_write (wf_write h (by omega) _) (by rw [tN_write]; omega) _) (by rw [tN_write, tN_write]; omega) _) (by rw [tN_write, tN_write, tN_write]; omega) _) (by rw [tN_write, tN_write, tN_write, tN_write]; omega) _
theorem feed_keeps {T : Tol} {A : Nat → Int32} (hn : tN T + 20 ≤ 600) (a b c e f : Int32) : ∀ q, 1090 ≤ q → (K_m_feed T A a b c e f).2 q = A q := by
  show ∀ q, 1090 ≤ q → (fo (F_m_feed_20 T A a b c e f) 20 0 A) q = A q
  have key := fo_inv (F := F_m_feed_20 T A a b c e f) (fun _ z => ∀ q, 1090 ≤ q → z q = A q) 20 0 A (fun _ _ => rfl) (fun k z _ hk hz q hq => by
    rw [feed_F T A z a b c e f (by omega), pk_un (by omega), pk_un (by omega)]
    exact hz q hq)
  exact key
theorem pr_feed {Γ : ex_G} {x : Nat} (a b c e f : Int32) : Pair Γ x m_SD_feed m_M_feed [.int a, .int b, .int c, .int e, .int f] := by
  intro σ T I h
  obtain ⟨hX, hT, hw⟩ := h.c
  have hIw := h.2.2.2.2.1
  by_cases hn : tN T + 20 ≤ 600
  · skip
    refine ⟨_, (K_feed T a b c e f).2, I, CallC.T h (feed_yes hX hT hn a b c e f) ⟨by omega, by omega⟩ (fun τ _ r => r), fun τ hτ => ?_⟩
    obtain ⟨g, A, hM, hmT⟩ := hτ.m
    have hr := m_feed_yes (Γ := Γ) hM hmT hn a b c e f
    obtain ⟨e1, e2⟩ := feed_eq (a := a) (b := b) (c := c) (e := e) (f := f) hmT hw hn
    rw [e1] at hr
    have hwf := wf_feed (a := a) (b := b) (c := c) (e := e) (f := f) ⟨hw, h.2.2.2.1⟩ hn
    exact CallM.A hτ hM hr e2 (fun q h1 _ => feed_keeps hn a b c e f q h1) hwf.1 hwf.2
  · skip
    refine ⟨_, T, I, CallC.pure h (feed_no hX hT hw (by omega) a b c e f), fun τ hτ => ?_⟩
    obtain ⟨g, A, hM, hmT⟩ := hτ.m
    exact CallM.pure hτ (m_feed_no hM hmT hw (by omega) a b c e f)
theorem pr_sit {Γ : ex_G} {x : Nat} (v k l b : Int32) (hb : b = 0 ∨ b = 1) : Pair Γ x m_SD_sit m_M_sit [.int v, .int k, .int l, .int b] := by
  intro σ T I h
  obtain ⟨hX, hT, hw⟩ := h.c
  have hIw := h.2.2.2.2.1
  have hw2 := hw.2.2.1
  rcases ix_cases v (n := tPn T) (by omega) with hv | hv | ⟨j, hj, rfl⟩
  · skip
    refine ⟨_, T, I, CallC.pure h (sit_nop hX hT hw (Or.inl hv) k l b), fun τ hτ => ?_⟩
    obtain ⟨g, A, hM, hmT⟩ := hτ.m
    exact CallM.pure hτ (m_sit_nop hM hmT hw (Or.inl hv) k l b)
  · skip
    refine ⟨_, T, I, CallC.pure h (sit_nop hX hT hw (Or.inr hv) k l b), fun τ hτ => ?_⟩
    obtain ⟨g, A, hM, hmT⟩ := hτ.m
    exact CallM.pure hτ (m_sit_nop hM hmT hw (Or.inr hv) k l b)
  have hwP := hw.2.2.2.2 j hj
  have h6 := hwP.1
  have hg : nI j = nI j ∧ j < tPn T := ⟨rfl, hj⟩
  rcases ix_cases k (n := (tP T j).1) (by omega) with hk | hk | ⟨k, hk, rfl⟩
  · skip
    refine ⟨_, T, I, CallC.pure h (sit_nok hX hT hw hg (Or.inl hk) l b), fun τ hτ => ?_⟩
    obtain ⟨g, A, hM, hmT⟩ := hτ.m
    exact CallM.pure hτ (m_sit_nok hM hmT hw hg (Or.inl hk) l b)
  · skip
    refine ⟨_, T, I, CallC.pure h (sit_nok hX hT hw hg (Or.inr hk) l b), fun τ hτ => ?_⟩
    obtain ⟨g, A, hM, hmT⟩ := hτ.m
    exact CallM.pure hτ (m_sit_nok hM hmT hw hg (Or.inr hk) l b)
  rcases ix_cases l (n := 16) (by omega) with hl | hl | ⟨l, hl, rfl⟩
  · skip
    refine ⟨_, T, I, CallC.pure h (sit_nol hX hT hw hg hk (Or.inl hl) b), fun τ hτ => ?_⟩
    obtain ⟨g, A, hM, hmT⟩ := hτ.m
    exact CallM.pure hτ (m_sit_nol hM hmT hw hg hk (Or.inl hl) b)
  · skip
    refine ⟨_, T, I, CallC.pure h (sit_nol hX hT hw hg hk (Or.inr hl) b), fun τ hτ => ?_⟩
    obtain ⟨g, A, hM, hmT⟩ := hτ.m
    exact CallM.pure hτ (m_sit_nol hM hmT hw hg hk (Or.inr hl) b)
  by_cases hold : (if K_bit ((tP T j).2 k 5) (nI l) = 0 then (0 : Int32) else 1) = b
  · refine ⟨_, T, I, CallC.pure h (sit_old hX hT hw hg hk hl hold), fun τ hτ => ?_⟩
    obtain ⟨g, A, hM, hmT⟩ := hτ.m
    have hm := sit_mT hmT hw hj hk ((tP T j).2 k 5)
    rw [T_sit_same] at hm
    rcases hb with rfl | rfl
    · exact CallM.B hτ hM (m_sit_old0 hM hmT hw hg hk hl hold) hm (fun q h1 _ => pk_un (by omega)) hw h.2.2.2.1
    · exact CallM.B hτ hM (m_sit_old1 hM hmT hw hg hk hl hold) hm (fun q h1 _ => pk_un (by omega)) hw h.2.2.2.1
  · obtain ⟨w, ew, -, hwl, hw31⟩ := (hwP.2 k hk).2.2.2.2.2.nat (by decide)
    have h65 : w < 65536 := by omega
    have hrg : rg ((tP T j).2 k 5 ^^^ (1 : Int32) <<< (nI l &&& 31)) 0 65535 := by rw [ew]; exact (xor_bit h65 hl).1
    refine ⟨_, T_sit T j k ((tP T j).2 k 5 ^^^ (1 : Int32) <<< (nI l &&& 31)), I, CallC.T (lo := x + 1) (hi := x + 62) h ((sit_new hX hT hw hg hk hl hold).X (frm.rf.put (by omega) (by omega))) ⟨by omega, by omega⟩ (fun τ f r => by subst r; exact sit_isT hT (by omega) (by omega) _), fun τ hτ => ?_⟩
    obtain ⟨g, A, hM, hmT⟩ := hτ.m
    have hm := sit_mT hmT hw hj hk ((tP T j).2 k 5 ^^^ (1 : Int32) <<< (nI l &&& 31))
    rcases hb with rfl | rfl
    · exact CallM.B hτ hM (m_sit_new0 hM hmT hw hg hk hl hold) hm (fun q h1 _ => pk_un (by omega)) (sit_wT hw hrg) h.2.2.2.1
    · exact CallM.B hτ hM (m_sit_new1 hM hmT hw hg hk hl hold) hm (fun q h1 _ => pk_un (by omega)) (sit_wT hw hrg) h.2.2.2.1
end
