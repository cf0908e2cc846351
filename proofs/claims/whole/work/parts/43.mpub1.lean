/-! The reference: home, coin, count, fault. -/
noncomputable section
section
variable {Γ : ex_G} {σ : ex_S} {x q a p y : Nat} {S : Sch} {T : Tol} {P : Pln} {g A : Nat → Int32}
theorem m_seated_ok (hM : isM σ y g A) (hP : mP A (970 + 40 * p) P) (hp : p < 3) (h6 : P.1 ≤ 6)  : RetV Γ m_M_seated [.ref y, .int (nI p)] σ (.int (K_sits P)) := by
  obtain ⟨m0, m1⟩ := id hM
  unfold RetV
  generalize hQ : (fun (r : Option Value) (σ' : ex_S) => r = some ((.int (K_sits P)) : Value) ∧ σ' = σ) = Q
  refine Ret.start pm_220 rfl ?_
  refine Ev.iconst (v := 0) rfl (by decide) ?_
  refine Ev.istore_n rfl rfl rfl ?_
  refine Ev.iconst (v := 0) rfl (by decide) ?_
  refine Ev.istore_n rfl rfl rfl ?_
  skip
  refine Ev.cg (L' := [some (.ref y), some (.int (nI p)), some (.int 0), some (.int (nI 0))]) ?_ (by first | rfl | simp [nI_0])
  refine lp (fun i z => Ev Γ 0 0 m_M_seated 0 0 4 [some (.ref y), some (.int (nI p)), some (.int z), some (.int (nI i))] [] σ Q) (fun k x => x ||| P.2 k 5) (P.1) (fun i z hi hnx => ?_) (P.1) 0 (0) (by omega) ?_
  · skip
    refine Ev.iload_n rfl rfl ?_
    refine Ev.aload_n rfl rfl ?_
    refine Ev.iload_n rfl rfl ?_
    refine Ev.cV1 rfl rfl (by assumption) rfl rfl (by decide) ⟨(Nat.le_refl _), (Nat.le_refl _)⟩ (m_classes_ok hM hP hp h6) ?_
    refine Ev.icmp_ge (tgt := 28) rfl (by decide) (fun c10 => absurd c10 (nI_ge hi (by omega))) (fun c10 => ?_)
    refine Ev.iload_n rfl rfl ?_
    refine Ev.aload_n rfl rfl ?_
    refine Ev.iload_n rfl rfl ?_
    refine Ev.iload_n rfl rfl ?_
    refine Ev.cV2 rfl rfl (by assumption) rfl rfl (by decide) ⟨(Nat.le_refl _), (Nat.le_refl _)⟩ (m_sitsIn_ok hM hP hp h6 i hi) ?_
    refine Ev.ior rfl ?_
    refine Ev.istore_n rfl rfl rfl ?_
    refine Ev.iinc (d := 1) rfl rfl rfl (by decide) rfl ?_
    refine Ev.goto (tgt := 4) rfl (by decide) ?_
    exact hnx.cg (by first | (simp [nI_1, *]; done) | (simp [nI_1, *]; rfl))
  · skip
    refine Ev.iload_n rfl rfl ?_
    refine Ev.aload_n rfl rfl ?_
    refine Ev.iload_n rfl rfl ?_
    refine Ev.cV1 rfl rfl (by assumption) rfl rfl (by decide) ⟨(Nat.le_refl _), (Nat.le_refl _)⟩ (m_classes_ok hM hP hp h6) ?_
    refine Ev.icmp_ge (tgt := 28) rfl (by decide) (fun c10 => ?_) (fun c10 => absurd (nI_le (Nat.le_refl _) (by omega)) c10)
    refine Ev.iload_n rfl rfl ?_
    refine Ev.iret (ty := .int) rfl rfl rfl (Nat.le_refl _) (Nat.le_refl _) ?_
    rw [← hQ]
    exact ⟨rfl, rfl⟩
theorem m_home_some (hM : isM σ y g A) (hT : mT A 0 T) (hw : wT T) {u v : Int32} {i j : Nat} (hg : gd T u v i j)  : RetV Γ m_M_home [.ref y, .int u, .int v] σ (.int (K_all (tS T i) &&& (K_sits (tP T j) ^^^ -1))) := by
  obtain ⟨m0, m1⟩ := id hM
  unfold RetV
  generalize hQ : (fun (r : Option Value) (σ' : ex_S) => r = some ((.int (K_all (tS T i) &&& (K_sits (tP T j) ^^^ -1))) : Value) ∧ σ' = σ) = Q
  refine Ret.start pm_221 rfl ?_
  have hgd := hg
  obtain ⟨rfl, hi, rfl, hj, hgo⟩ := hg
  have hi3 : i < 3 := by have := hw.2.1; omega
  have hj3 : j < 3 := by have := hw.2.2.1; omega
  have hwS := hw.2.2.2.1 i hi
  have hwP := hw.2.2.2.2 j hj
  have hn16 := hwS.1
  have hn5 := hwS.2.1
  have h6 := hwP.1
  have hS := hT.s hi
  have hP := hT.p hj
  have hs : 610 + 120 * i + 120 ≤ 4500 := by omega
  refine Ev.aload_n rfl rfl ?_
  refine Ev.iload_n rfl rfl ?_
  refine Ev.iload_n rfl rfl ?_
  refine Ev.cV2 rfl rfl (by assumption) rfl rfl (by decide) ⟨(Nat.le_refl _), (Nat.le_refl _)⟩ (m_goes_yes hM hT hw hgd) ?_
  refine Ev.if_eq (tgt := 34) rfl (by decide) (fun c6 => absurd c6 (by decide)) (fun c6 => ?_)
  refine Ev.iconst (v := 1) rfl (by decide) ?_
  refine Ev.aload_n rfl rfl ?_
  refine Ev.getf rfl rfl (by assumption) rfl ?_
  refine Ev.iconst (v := 0) rfl (by decide) ?_
  refine Ev.iload_n rfl rfl ?_
  refine Ev.cS2 rfl rfl rfl (by decide) ⟨(Nat.le_refl _), (Nat.le_refl _)⟩ (m_pl0_ok i) ?_
  refine Ev.ialdN (k := 610 + 120 * i) rfl (by assumption) rfl ⟨(by omega), by decide⟩ ?_
  rw [hS.1]
  refine Ev.ishl rfl ?_
  refine Ev.iconst (v := 1) rfl (by decide) ?_
  refine Ev.isub rfl ?_
  refine Ev.aload_n rfl rfl ?_
  refine Ev.iload_n rfl rfl ?_
  refine Ev.cV1 rfl rfl (by assumption) rfl rfl (by decide) ⟨(Nat.le_refl _), (Nat.le_refl _)⟩ (m_seated_ok hM hP hj3 h6) ?_
  refine Ev.iconst (v := (-1)) rfl (by decide) ?_
  refine Ev.ixor rfl ?_
  refine Ev.iand rfl ?_
  refine Ev.goto (tgt := 35) rfl (by decide) ?_
  refine Ev.iret (ty := .int) rfl rfl rfl (Nat.le_refl _) (Nat.le_refl _) ?_
  rw [← hQ]
  exact ⟨rfl, rfl⟩
theorem m_home_none (hM : isM σ y g A) (hT : mT A 0 T) (hw : wT T) {u v : Int32} (hg : ¬ ∃ i j, gd T u v i j)  : RetV Γ m_M_home [.ref y, .int u, .int v] σ (.int (-1)) := by
  obtain ⟨m0, m1⟩ := id hM
  unfold RetV
  generalize hQ : (fun (r : Option Value) (σ' : ex_S) => r = some ((.int (-1)) : Value) ∧ σ' = σ) = Q
  refine Ret.start pm_221 rfl ?_
  refine Ev.aload_n rfl rfl ?_
  refine Ev.iload_n rfl rfl ?_
  refine Ev.iload_n rfl rfl ?_
  refine Ev.cV2 rfl rfl (by assumption) rfl rfl (by decide) ⟨(Nat.le_refl _), (Nat.le_refl _)⟩ (m_goes_no hM hT hw hg) ?_
  refine Ev.if_eq (tgt := 34) rfl (by decide) (fun c6 => ?_) (fun c6 => absurd rfl c6)
  refine Ev.iconst (v := (-1)) rfl (by decide) ?_
  refine Ev.iret (ty := .int) rfl rfl rfl (Nat.le_refl _) (Nat.le_refl _) ?_
  rw [← hQ]
  exact ⟨rfl, rfl⟩
theorem m_coin_some (hM : isM σ y g A) (hT : mT A 0 T) (hw : wT T) {u v : Int32} {i j : Nat} (hg : gd T u v i j)  : RetV Γ m_M_coin [.ref y, .int u, .int v] σ (.int ((tS T i).2.2 9 6 * K_taken (tP T j) - (tS T i).2.2 9 5 * nI (tP T j).1)) := by
  obtain ⟨m0, m1⟩ := id hM
  unfold RetV
  generalize hQ : (fun (r : Option Value) (σ' : ex_S) => r = some ((.int ((tS T i).2.2 9 6 * K_taken (tP T j) - (tS T i).2.2 9 5 * nI (tP T j).1)) : Value) ∧ σ' = σ) = Q
  refine Ret.start pm_222 rfl ?_
  have hgd := hg
  obtain ⟨rfl, hi, rfl, hj, hgo⟩ := hg
  have hi3 : i < 3 := by have := hw.2.1; omega
  have hj3 : j < 3 := by have := hw.2.2.1; omega
  have hwS := hw.2.2.2.1 i hi
  have hwP := hw.2.2.2.2 j hj
  have hn16 := hwS.1
  have hn5 := hwS.2.1
  have h6 := hwP.1
  have hS := hT.s hi
  have hP := hT.p hj
  have hs : 610 + 120 * i + 120 ≤ 4500 := by omega
  have hbc : ∀ k, k < (tP T j).1 → K_many ((tP T j).2 k 5) = K_bc ((tP T j).2 k 5) := fun k hk => by
    obtain ⟨w, hw2, e⟩ := (hgo k hk).2
    have hp : 2 ^ (tS T i).1 ≤ 2 ^ 16 := Nat.pow_le_pow_right (by decide) hn16
    rw [e]
    exact many_nI (by omega)
  refine Ev.aload_n rfl rfl ?_
  refine Ev.iload_n rfl rfl ?_
  refine Ev.iload_n rfl rfl ?_
  refine Ev.cV2 rfl rfl (by assumption) rfl rfl (by decide) ⟨(Nat.le_refl _), (Nat.le_refl _)⟩ (m_goes_yes hM hT hw hgd) ?_
  refine Ev.if_ne (tgt := 12) rfl (by decide) (fun c6 => ?_) (fun c6 => absurd c6 (by decide))
  refine Ev.iconst (v := 0) rfl (by decide) ?_
  refine Ev.iload_n rfl rfl ?_
  refine Ev.cS2 rfl rfl rfl (by decide) ⟨(Nat.le_refl _), (Nat.le_refl _)⟩ (m_pl0_ok i) ?_
  refine Ev.istore_n rfl rfl rfl ?_
  refine Ev.iconst (v := 0) rfl (by decide) ?_
  refine Ev.istore rfl rfl rfl ?_
  refine Ev.iconst (v := 0) rfl (by decide) ?_
  refine Ev.istore rfl rfl rfl ?_
  skip
  refine Ev.cg (L' := [some (.ref y), some (.int (nI i)), some (.int (nI j)), some (.int (nI (610 + 120 * i))), some (.int 0), some (.int (nI 0))]) ?_ (by first | rfl | simp [nI_0])
  refine lp (fun k z => Ev Γ 0 0 m_M_coin 0 0 24 [some (.ref y), some (.int (nI i)), some (.int (nI j)), some (.int (nI (610 + 120 * i))), some (.int z), some (.int (nI k))] [] σ Q) (fun k x => x + K_bc ((tP T j).2 k 5)) ((tP T j).1) (fun k z hi hnx => ?_) ((tP T j).1) 0 (0) (by omega) ?_
  · skip
    refine Ev.iload rfl rfl ?_
    refine Ev.aload_n rfl rfl ?_
    refine Ev.iload_n rfl rfl ?_
    refine Ev.cV1 rfl rfl (by assumption) rfl rfl (by decide) ⟨(Nat.le_refl _), (Nat.le_refl _)⟩ (m_classes_ok hM hP hj3 h6) ?_
    refine Ev.icmp_ge (tgt := 55) rfl (by decide) (fun c31 => absurd c31 (nI_ge hi (by omega))) (fun c31 => ?_)
    refine Ev.iload rfl rfl ?_
    refine Ev.aload_n rfl rfl ?_
    refine Ev.iload_n rfl rfl ?_
    refine Ev.iload rfl rfl ?_
    refine Ev.cV2 rfl rfl (by assumption) rfl rfl (by decide) ⟨(Nat.le_refl _), (Nat.le_refl _)⟩ (m_sitsIn_ok hM hP hj3 h6 k hi) ?_
    refine Ev.cS1 rfl rfl rfl (by decide) ⟨(Nat.le_refl _), (Nat.le_refl _)⟩ (m_many_ok _) ?_
    rw [hbc k hi]
    refine Ev.iadd rfl ?_
    refine Ev.istore rfl rfl rfl ?_
    refine Ev.iinc (d := 1) rfl rfl rfl (by decide) rfl ?_
    refine Ev.goto (tgt := 24) rfl (by decide) ?_
    exact hnx.cg (by first | (simp [nI_1, *]; done) | (simp [nI_1, *]; rfl))
  · skip
    refine Ev.iload rfl rfl ?_
    refine Ev.aload_n rfl rfl ?_
    refine Ev.iload_n rfl rfl ?_
    refine Ev.cV1 rfl rfl (by assumption) rfl rfl (by decide) ⟨(Nat.le_refl _), (Nat.le_refl _)⟩ (m_classes_ok hM hP hj3 h6) ?_
    refine Ev.icmp_ge (tgt := 55) rfl (by decide) (fun c31 => ?_) (fun c31 => absurd (nI_le (Nat.le_refl _) (by omega)) c31)
    refine Ev.aload_n rfl rfl ?_
    refine Ev.getf rfl rfl (by assumption) rfl ?_
    refine Ev.iload_n rfl rfl ?_
    refine Ev.bipush (v := 8) rfl (by decide) ?_
    refine Ev.iadd rfl ?_
    refine Ev.ialdN (k := 610 + 120 * i + 8) rfl (by assumption) (nI_add _ 8) ⟨(by omega), by decide⟩ ?_
    rw [show A (610 + 120 * i + 8) = _ from hS.2.2.1 6 (by decide)]
    refine Ev.iload rfl rfl ?_
    refine Ev.imul rfl ?_
    refine Ev.aload_n rfl rfl ?_
    refine Ev.getf rfl rfl (by assumption) rfl ?_
    refine Ev.iload_n rfl rfl ?_
    refine Ev.bipush (v := 7) rfl (by decide) ?_
    refine Ev.iadd rfl ?_
    refine Ev.ialdN (k := 610 + 120 * i + 7) rfl (by assumption) (nI_add _ 7) ⟨(by omega), by decide⟩ ?_
    rw [show A (610 + 120 * i + 7) = _ from hS.2.2.1 5 (by decide)]
    refine Ev.aload_n rfl rfl ?_
    refine Ev.iload_n rfl rfl ?_
    refine Ev.cV1 rfl rfl (by assumption) rfl rfl (by decide) ⟨(Nat.le_refl _), (Nat.le_refl _)⟩ (m_classes_ok hM hP hj3 h6) ?_
    refine Ev.imul rfl ?_
    refine Ev.isub rfl ?_
    refine Ev.iret (ty := .int) rfl rfl rfl (Nat.le_refl _) (Nat.le_refl _) ?_
    rw [← hQ]
    exact ⟨rfl, rfl⟩
theorem m_coin_none (hM : isM σ y g A) (hT : mT A 0 T) (hw : wT T) {u v : Int32} (hg : ¬ ∃ i j, gd T u v i j)  : RetV Γ m_M_coin [.ref y, .int u, .int v] σ (.int (-1000000)) := by
  obtain ⟨m0, m1⟩ := id hM
  unfold RetV
  generalize hQ : (fun (r : Option Value) (σ' : ex_S) => r = some ((.int (-1000000)) : Value) ∧ σ' = σ) = Q
  refine Ret.start pm_222 rfl ?_
  refine Ev.aload_n rfl rfl ?_
  refine Ev.iload_n rfl rfl ?_
  refine Ev.iload_n rfl rfl ?_
  refine Ev.cV2 rfl rfl (by assumption) rfl rfl (by decide) ⟨(Nat.le_refl _), (Nat.le_refl _)⟩ (m_goes_no hM hT hw hg) ?_
  refine Ev.if_ne (tgt := 12) rfl (by decide) (fun c6 => absurd rfl c6) (fun c6 => ?_)
  refine Ev.ldc (v := (-1000000)) rfl rfl ?_
  refine Ev.iret (ty := .int) rfl rfl rfl (Nat.le_refl _) (Nat.le_refl _) ?_
  rw [← hQ]
  exact ⟨rfl, rfl⟩
end
end
