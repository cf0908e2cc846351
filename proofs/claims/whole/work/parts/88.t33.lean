/-! beside refused by the class: the learner does not sit there. -/
noncomputable section
section
variable {Γ : ex_G} {σ : ex_S} {x q a p y : Nat} {S : Sch} {T : Tol} {P : Pln} {g A : Nat → Int32}
def K_beside_nos (T : Tol) (i j : Nat) (k0 l : Nat) : Int32 := (-2 : Int32)
theorem beside_nos_some (hX : isX σ x) (hT : isT σ (x + 1) T) (hw : wT T) {u v : Int32} {i j : Nat} (hg : gd T u v i j) {k0 : Nat} (hkk : k0 < (tP T j).1) {l : Nat} (hl : l < (tS T i).1) (hb : ¬ (12 : Int32) < (K_bc ((tP T j).2 k0 5))) (hs0 : K_bit ((tP T j).2 k0 5) (nI l) = 0) : RetV Γ m_SD_beside [(.ref x), .int u, .int v, (.int (nI k0)), (.int (nI l))] σ (.int (K_beside_nos T i j k0 l)) := by
  unfold isX at hX
  obtain ⟨t0, t1, ⟨fs, t2, t3⟩, ⟨fp, t4, t5⟩, t6, t7⟩ := id hT
  obtain ⟨rfl, hi, rfl, hj, hgo⟩ := hg
  have hw1 := hw.2.1
  have hw2 := hw.2.2.1
  have hwS := hw.2.2.2.1 i hi
  have hwP := hw.2.2.2.2 j hj
  have hn16 := hwS.1
  have hn5 := hwS.2.1
  have h6 := hwP.1
  have hSi := t6 i (by omega)
  have hPj := t7 j (by omega)
  have hokL : ∀ k, k < (tP T j).1 → okL (tS T i) ((tP T j).2 k) := fun k hk => goT_okL hwS (hgo k hk).1
  obtain ⟨h0, h1, h2, h3, h4, h5, h6', h7, h8, h9, h10⟩ := id hSi
  obtain ⟨p0, ⟨pf, p1, p2⟩, p3⟩ := id hPj
  unfold RetV
  generalize hQ : (fun (r : Option Value) (σ' : ex_S) => r = some ((.int (K_beside_nos T i j k0 l)) : Value) ∧ σ' = σ) = Q
  refine Ret.start pm_26 rfl ?_
  refine Ev.aload_n rfl rfl ?_
  refine Ev.iload_n rfl rfl ?_
  refine Ev.iload_n rfl rfl ?_
  refine Ev.cV2 rfl rfl hX rfl rfl (by decide) ⟨(Nat.le_refl _), (Nat.le_refl _)⟩ (going_some hX hT hw ⟨rfl, hi, rfl, hj, hgo⟩) ?_
  refine Ev.astore rfl rfl rfl ?_
  refine Ev.aload_n rfl rfl ?_
  refine Ev.getf rfl rfl hX rfl ?_
  refine Ev.iload_n rfl rfl ?_
  refine Ev.cV1 rfl rfl t0 rfl rfl (by decide) ⟨(Nat.le_refl _), (Nat.le_refl _)⟩ (schoolAt_some hT hw1 hi) ?_
  refine Ev.astore rfl rfl rfl ?_
  refine Ev.aload rfl rfl ?_
  refine Ev.iload_n rfl rfl ?_
  refine Ev.cS2 rfl rfl rfl (by decide) ⟨(Nat.le_refl _), (Nat.le_refl _)⟩ (lessonOf_some hPj h6 hkk) ?_
  refine Ev.astore rfl rfl rfl ?_
  refine Ev.aload rfl rfl ?_
  refine Ev.ifnull rfl ?_
  refine Ev.aload rfl rfl ?_
  refine Ev.ifnull rfl ?_
  refine Ev.aload rfl rfl ?_
  refine Ev.getf rfl rfl (p3 k0 (by omega)) rfl ?_
  refine Ev.cS1 rfl rfl rfl (by decide) ⟨(Nat.le_refl _), (Nat.le_refl _)⟩ (bc_ok _) ?_
  refine Ev.bipush (v := 12) rfl (by decide) ?_
  refine Ev.jle (tgt := 52) rfl (by decide) (fun c46 => ?_) (fun c46 => absurd c46 hb)
  refine Ev.iload rfl rfl ?_
  refine Ev.iconst (v := (-1)) rfl (by decide) ?_
  refine Ev.jeq (tgt := 81) rfl (by decide) (fun c55 => absurd c55 (nI_m1 (by omega))) (fun c55 => ?_)
  refine Ev.aload rfl rfl ?_
  refine Ev.iload rfl rfl ?_
  refine Ev.cV1 rfl rfl h0 rfl rfl (by decide) ⟨(Nat.le_refl _), (Nat.le_refl _)⟩ (has_y hSi hn16 hl) ?_
  refine Ev.zeq (tgt := 78) rfl (by decide) (fun c65 => absurd c65 (by decide)) (fun c65 => ?_)
  refine Ev.aload rfl rfl ?_
  refine Ev.iload rfl rfl ?_
  refine Ev.cV1 rfl rfl (p3 k0 (by omega)) rfl rfl (by decide) ⟨(Nat.le_refl _), (Nat.le_refl _)⟩ (lhas_ok (p3 k0 (by omega)) _) ?_
  refine Ev.zne (tgt := 81) rfl (by decide) (fun c75 => absurd (if_pos hs0) c75) (fun c75 => ?_)
  refine Ev.bipush (v := (-2)) rfl (by decide) ?_
  refine Ev.iret (ty := .int) rfl rfl rfl (Nat.le_refl _) (Nat.le_refl _) ?_
  rw [← hQ]
  refine ⟨congrArg (fun v => some (Value.int v)) (Eq.symm ?_), rfl⟩
  rfl
end
end
