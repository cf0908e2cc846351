/-! The class: a plan's loops; goes, home, coin, count, fault. -/
noncomputable section
def K_seat (P : Pln) (t : Int32) : Int32 := fo (fun k x => if P.2 k 1 = t then x else x ||| P.2 k 5) P.1 0 0
def K_sits (P : Pln) : Int32 := fo (fun k x => x ||| P.2 k 5) P.1 0 0
def K_taken (P : Pln) : Int32 := fo (fun k x => x + K_bc (P.2 k 5)) P.1 0 0
def K_cls (P : Pln) (e : Int32) : Int32 := fo (fun k x => x + (if P.2 k 2 = e then 1 else 0)) P.1 0 0
def K_evs (P : Pln) (t : Int32) : Int32 := fo (fun k x => if P.2 k 1 = t then x ||| (1 : Int32) <<< (P.2 k 2 &&& 31) else x) P.1 0 0
theorem seat_all {P : Pln} (hw : wP P) : K_seat P (-1) = K_sits P := by
  unfold K_seat K_sits
  refine fo_cong _ _ _ (fun j x _ h => ?_)
  rw [if_neg]
  intro e
  have := (hw.2 j (by omega)).2.1.1
  rw [e] at this
  exact absurd this (by decide)
section
variable {Γ : ex_G} {σ : ex_S} {x q a p y : Nat} {S : Sch} {T : Tol} {P : Pln} {g A : Nat → Int32}
theorem seatW_ok (hP : isP σ p P) (h6 : P.1 ≤ 6) (t : Int32) : RetV Γ m_Plan_seatedWithout [.ref p, .int t] σ (.int (K_seat P t)) := by
  obtain ⟨p0, ⟨pf, p1, p2⟩, p3⟩ := id hP
  unfold RetV
  generalize hQ : (fun (r : Option Value) (σ' : ex_S) => r = some ((.int (K_seat P t)) : Value) ∧ σ' = σ) = Q
  refine Ret.start pm_108 rfl ?_
  refine Ev.iconst (v := 0) rfl (by decide) ?_
  refine Ev.istore_n rfl rfl rfl ?_
  refine Ev.iconst (v := 0) rfl (by decide) ?_
  refine Ev.istore_n rfl rfl rfl ?_
  skip
  refine Ev.cg (L' := [some (.ref p), some (.int t), some (.int 0), some (.int (nI 0))]) ?_ (by first | rfl | simp [nI_0])
  refine lp (fun i z => Ev Γ 0 0 m_Plan_seatedWithout 0 0 4 [some (.ref p), some (.int t), some (.int z), some (.int (nI i))] [] σ Q) (fun k x => if P.2 k 1 = t then x else x ||| P.2 k 5) (P.1) (fun i z hi hnx => ?_) (P.1) 0 (0) (by omega) ?_
  · skip
    refine Ev.iload_n rfl rfl ?_
    refine Ev.aload_n rfl rfl ?_
    refine Ev.getf rfl rfl (by assumption) rfl ?_
    refine Ev.icmp_ge (tgt := 43) rfl (by decide) (fun c9 => absurd c9 (nI_ge hi (by omega))) (fun c9 => ?_)
    refine Ev.aload_n rfl rfl ?_
    refine Ev.getf rfl rfl (by assumption) rfl ?_
    refine Ev.iload_n rfl rfl ?_
    refine Ev.aaldN (k := i) rfl (by assumption) rfl rfl ⟨(by omega), by decide⟩ (p2 i (by omega)) ?_
    refine Ev.getf rfl rfl (p3 i (by omega)) rfl ?_
    refine Ev.iload_n rfl rfl ?_
    refine Ev.icmp_eq (tgt := 37) rfl (by decide) (fun c22 => ?_) (fun c22 => ?_)
    · skip
      refine Ev.iinc (d := 1) rfl rfl rfl (by decide) rfl ?_
      refine Ev.goto (tgt := 4) rfl (by decide) ?_
      exact hnx.cg (by first | (simp [nI_1, *]; done) | (simp [nI_1, *]; rfl))
    · skip
      refine Ev.iload_n rfl rfl ?_
      refine Ev.aload_n rfl rfl ?_
      refine Ev.getf rfl rfl (by assumption) rfl ?_
      refine Ev.iload_n rfl rfl ?_
      refine Ev.aaldN (k := i) rfl (by assumption) rfl rfl ⟨(by omega), by decide⟩ (p2 i (by omega)) ?_
      refine Ev.getf rfl rfl (p3 i (by omega)) rfl ?_
      refine Ev.ior rfl ?_
      refine Ev.istore_n rfl rfl rfl ?_
      refine Ev.iinc (d := 1) rfl rfl rfl (by decide) rfl ?_
      refine Ev.goto (tgt := 4) rfl (by decide) ?_
      exact hnx.cg (by first | (simp [nI_1, *]; done) | (simp [nI_1, *]; rfl))
  · skip
    refine Ev.iload_n rfl rfl ?_
    refine Ev.aload_n rfl rfl ?_
    refine Ev.getf rfl rfl (by assumption) rfl ?_
    refine Ev.icmp_ge (tgt := 43) rfl (by decide) (fun c9 => ?_) (fun c9 => absurd (nI_le (Nat.le_refl _) (by omega)) c9)
    refine Ev.iload_n rfl rfl ?_
    refine Ev.iret (ty := .int) rfl rfl rfl (Nat.le_refl _) (Nat.le_refl _) ?_
    rw [← hQ]
    exact ⟨rfl, rfl⟩
theorem seated_ok (hP : isP σ p P) (hw : wP P) : RetV Γ m_Plan_seated [.ref p] σ (.int (K_sits P)) := by
  obtain ⟨p0, ⟨pf, p1, p2⟩, p3⟩ := id hP
  unfold RetV
  generalize hQ : (fun (r : Option Value) (σ' : ex_S) => r = some ((.int (K_sits P)) : Value) ∧ σ' = σ) = Q
  refine Ret.start pm_107 rfl ?_
  refine Ev.aload_n rfl rfl ?_
  refine Ev.iconst (v := (-1)) rfl (by decide) ?_
  refine Ev.cV1 rfl rfl (by assumption) rfl rfl (by decide) ⟨(Nat.le_refl _), (Nat.le_refl _)⟩ (seatW_ok hP hw.1 (-1)) ?_
  refine Ev.iret (ty := .int) rfl rfl rfl (Nat.le_refl _) (Nat.le_refl _) ?_
  rw [← hQ]
  exact ⟨by rw [seat_all hw], rfl⟩
theorem taken_ok (hP : isP σ p P) (h6 : P.1 ≤ 6)  : RetV Γ m_Plan_taken [.ref p] σ (.int (K_taken P)) := by
  obtain ⟨p0, ⟨pf, p1, p2⟩, p3⟩ := id hP
  unfold RetV
  generalize hQ : (fun (r : Option Value) (σ' : ex_S) => r = some ((.int (K_taken P)) : Value) ∧ σ' = σ) = Q
  refine Ret.start pm_109 rfl ?_
  refine Ev.iconst (v := 0) rfl (by decide) ?_
  refine Ev.istore_n rfl rfl rfl ?_
  refine Ev.iconst (v := 0) rfl (by decide) ?_
  refine Ev.istore_n rfl rfl rfl ?_
  skip
  refine Ev.cg (L' := [some (.ref p), some (.int 0), some (.int (nI 0))]) ?_ (by first | rfl | simp [nI_0])
  refine lp (fun i z => Ev Γ 0 0 m_Plan_taken 0 0 4 [some (.ref p), some (.int z), some (.int (nI i))] [] σ Q) (fun k x => x + K_bc (P.2 k 5)) (P.1) (fun i z hi hnx => ?_) (P.1) 0 (0) (by omega) ?_
  · skip
    refine Ev.iload_n rfl rfl ?_
    refine Ev.aload_n rfl rfl ?_
    refine Ev.getf rfl rfl (by assumption) rfl ?_
    refine Ev.icmp_ge (tgt := 33) rfl (by decide) (fun c9 => absurd c9 (nI_ge hi (by omega))) (fun c9 => ?_)
    refine Ev.iload_n rfl rfl ?_
    refine Ev.aload_n rfl rfl ?_
    refine Ev.getf rfl rfl (by assumption) rfl ?_
    refine Ev.iload_n rfl rfl ?_
    refine Ev.aaldN (k := i) rfl (by assumption) rfl rfl ⟨(by omega), by decide⟩ (p2 i (by omega)) ?_
    refine Ev.getf rfl rfl (p3 i (by omega)) rfl ?_
    refine Ev.cS1 rfl rfl rfl (by decide) ⟨(Nat.le_refl _), (Nat.le_refl _)⟩ (bc_ok _) ?_
    refine Ev.iadd rfl ?_
    refine Ev.istore_n rfl rfl rfl ?_
    refine Ev.iinc (d := 1) rfl rfl rfl (by decide) rfl ?_
    refine Ev.goto (tgt := 4) rfl (by decide) ?_
    exact hnx.cg (by first | (simp [nI_1, *]; done) | (simp [nI_1, *]; rfl))
  · skip
    refine Ev.iload_n rfl rfl ?_
    refine Ev.aload_n rfl rfl ?_
    refine Ev.getf rfl rfl (by assumption) rfl ?_
    refine Ev.icmp_ge (tgt := 33) rfl (by decide) (fun c9 => ?_) (fun c9 => absurd (nI_le (Nat.le_refl _) (by omega)) c9)
    refine Ev.iload_n rfl rfl ?_
    refine Ev.iret (ty := .int) rfl rfl rfl (Nat.le_refl _) (Nat.le_refl _) ?_
    rw [← hQ]
    exact ⟨rfl, rfl⟩
theorem cls_ok (hP : isP σ p P) (h6 : P.1 ≤ 6) (e : Int32) : RetV Γ m_Plan_classesOn [.ref p, .int e] σ (.int (K_cls P e)) := by
  obtain ⟨p0, ⟨pf, p1, p2⟩, p3⟩ := id hP
  unfold RetV
  generalize hQ : (fun (r : Option Value) (σ' : ex_S) => r = some ((.int (K_cls P e)) : Value) ∧ σ' = σ) = Q
  refine Ret.start pm_111 rfl ?_
  refine Ev.iconst (v := 0) rfl (by decide) ?_
  refine Ev.istore_n rfl rfl rfl ?_
  refine Ev.iconst (v := 0) rfl (by decide) ?_
  refine Ev.istore_n rfl rfl rfl ?_
  skip
  refine Ev.cg (L' := [some (.ref p), some (.int e), some (.int 0), some (.int (nI 0))]) ?_ (by first | rfl | simp [nI_0])
  refine lp (fun i z => Ev Γ 0 0 m_Plan_classesOn 0 0 4 [some (.ref p), some (.int e), some (.int z), some (.int (nI i))] [] σ Q) (fun k x => x + (if P.2 k 2 = e then 1 else 0)) (P.1) (fun i z hi hnx => ?_) (P.1) 0 (0) (by omega) ?_
  · skip
    refine Ev.iload_n rfl rfl ?_
    refine Ev.aload_n rfl rfl ?_
    refine Ev.getf rfl rfl (by assumption) rfl ?_
    refine Ev.icmp_ge (tgt := 39) rfl (by decide) (fun c9 => absurd c9 (nI_ge hi (by omega))) (fun c9 => ?_)
    refine Ev.iload_n rfl rfl ?_
    refine Ev.aload_n rfl rfl ?_
    refine Ev.getf rfl rfl (by assumption) rfl ?_
    refine Ev.iload_n rfl rfl ?_
    refine Ev.aaldN (k := i) rfl (by assumption) rfl rfl ⟨(by omega), by decide⟩ (p2 i (by omega)) ?_
    refine Ev.getf rfl rfl (p3 i (by omega)) rfl ?_
    refine Ev.iload_n rfl rfl ?_
    refine Ev.icmp_ne (tgt := 30) rfl (by decide) (fun c23 => ?_) (fun c23 => ?_)
    · skip
      refine Ev.iconst (v := 0) rfl (by decide) ?_
      refine Ev.iadd rfl ?_
      refine Ev.istore_n rfl rfl rfl ?_
      refine Ev.iinc (d := 1) rfl rfl rfl (by decide) rfl ?_
      refine Ev.goto (tgt := 4) rfl (by decide) ?_
      exact hnx.cg (by first | (simp [nI_1, *]; done) | (simp [nI_1, *]; rfl))
    · skip
      refine Ev.iconst (v := 1) rfl (by decide) ?_
      refine Ev.goto (tgt := 31) rfl (by decide) ?_
      refine Ev.iadd rfl ?_
      refine Ev.istore_n rfl rfl rfl ?_
      refine Ev.iinc (d := 1) rfl rfl rfl (by decide) rfl ?_
      refine Ev.goto (tgt := 4) rfl (by decide) ?_
      exact hnx.cg (by first | (simp [nI_1, *]; done) | (simp [nI_1, *]; rfl))
  · skip
    refine Ev.iload_n rfl rfl ?_
    refine Ev.aload_n rfl rfl ?_
    refine Ev.getf rfl rfl (by assumption) rfl ?_
    refine Ev.icmp_ge (tgt := 39) rfl (by decide) (fun c9 => ?_) (fun c9 => absurd (nI_le (Nat.le_refl _) (by omega)) c9)
    refine Ev.iload_n rfl rfl ?_
    refine Ev.iret (ty := .int) rfl rfl rfl (Nat.le_refl _) (Nat.le_refl _) ?_
    rw [← hQ]
    exact ⟨rfl, rfl⟩
theorem evs_ok (hP : isP σ p P) (h6 : P.1 ≤ 6) (t : Int32) : RetV Γ m_Plan_eveningsOf [.ref p, .int t] σ (.int (K_evs P t)) := by
  obtain ⟨p0, ⟨pf, p1, p2⟩, p3⟩ := id hP
  unfold RetV
  generalize hQ : (fun (r : Option Value) (σ' : ex_S) => r = some ((.int (K_evs P t)) : Value) ∧ σ' = σ) = Q
  refine Ret.start pm_112 rfl ?_
  refine Ev.iconst (v := 0) rfl (by decide) ?_
  refine Ev.istore_n rfl rfl rfl ?_
  refine Ev.iconst (v := 0) rfl (by decide) ?_
  refine Ev.istore_n rfl rfl rfl ?_
  skip
  refine Ev.cg (L' := [some (.ref p), some (.int t), some (.int 0), some (.int (nI 0))]) ?_ (by first | rfl | simp [nI_0])
  refine lp (fun i z => Ev Γ 0 0 m_Plan_eveningsOf 0 0 4 [some (.ref p), some (.int t), some (.int z), some (.int (nI i))] [] σ Q) (fun k x => if P.2 k 1 = t then x ||| (1 : Int32) <<< (P.2 k 2 &&& 31) else x) (P.1) (fun i z hi hnx => ?_) (P.1) 0 (0) (by omega) ?_
  · skip
    refine Ev.iload_n rfl rfl ?_
    refine Ev.aload_n rfl rfl ?_
    refine Ev.getf rfl rfl (by assumption) rfl ?_
    refine Ev.icmp_ge (tgt := 45) rfl (by decide) (fun c9 => absurd c9 (nI_ge hi (by omega))) (fun c9 => ?_)
    refine Ev.aload_n rfl rfl ?_
    refine Ev.getf rfl rfl (by assumption) rfl ?_
    refine Ev.iload_n rfl rfl ?_
    refine Ev.aaldN (k := i) rfl (by assumption) rfl rfl ⟨(by omega), by decide⟩ (p2 i (by omega)) ?_
    refine Ev.getf rfl rfl (p3 i (by omega)) rfl ?_
    refine Ev.iload_n rfl rfl ?_
    refine Ev.icmp_ne (tgt := 39) rfl (by decide) (fun c22 => ?_) (fun c22 => ?_)
    · skip
      refine Ev.iinc (d := 1) rfl rfl rfl (by decide) rfl ?_
      refine Ev.goto (tgt := 4) rfl (by decide) ?_
      exact hnx.cg (by first | (simp [nI_1, *]; done) | (simp [nI_1, *]; rfl))
    · skip
      refine Ev.iload_n rfl rfl ?_
      refine Ev.iconst (v := 1) rfl (by decide) ?_
      refine Ev.aload_n rfl rfl ?_
      refine Ev.getf rfl rfl (by assumption) rfl ?_
      refine Ev.iload_n rfl rfl ?_
      refine Ev.aaldN (k := i) rfl (by assumption) rfl rfl ⟨(by omega), by decide⟩ (p2 i (by omega)) ?_
      refine Ev.getf rfl rfl (p3 i (by omega)) rfl ?_
      refine Ev.ishl rfl ?_
      refine Ev.ior rfl ?_
      refine Ev.istore_n rfl rfl rfl ?_
      refine Ev.iinc (d := 1) rfl rfl rfl (by decide) rfl ?_
      refine Ev.goto (tgt := 4) rfl (by decide) ?_
      exact hnx.cg (by first | (simp [nI_1, *]; done) | (simp [nI_1, *]; rfl))
  · skip
    refine Ev.iload_n rfl rfl ?_
    refine Ev.aload_n rfl rfl ?_
    refine Ev.getf rfl rfl (by assumption) rfl ?_
    refine Ev.icmp_ge (tgt := 45) rfl (by decide) (fun c9 => ?_) (fun c9 => absurd (nI_le (Nat.le_refl _) (by omega)) c9)
    refine Ev.iload_n rfl rfl ?_
    refine Ev.iret (ty := .int) rfl rfl rfl (Nat.le_refl _) (Nat.le_refl _) ?_
    rw [← hQ]
    exact ⟨rfl, rfl⟩
theorem goes_some (hX : isX σ x) (hT : isT σ (x + 1) T) (hw : wT T) {u v : Int32} {i j : Nat} (hg : gd T u v i j)  : RetV Γ m_SD_goes [.ref x, .int u, .int v] σ (.int (1)) := by
  unfold isX at hX
  obtain ⟨t0, t1, ⟨fs, t2, t3⟩, ⟨fp, t4, t5⟩, t6, t7⟩ := id hT
  unfold RetV
  generalize hQ : (fun (r : Option Value) (σ' : ex_S) => r = some ((.int (1)) : Value) ∧ σ' = σ) = Q
  refine Ret.start pm_9 rfl ?_
  obtain ⟨rfl, hi, rfl, hj, hgo⟩ := hg
  have hw1 := hw.2.1
  have hw2 := hw.2.2.1
  have hwS := hw.2.2.2.1 i hi
  have hwP := hw.2.2.2.2 j hj
  have hn16 := hwS.1
  have hn5 := hwS.2.1
  have h6 := hwP.1
  have hSi := t6 i (by omega)
  have hPj := t7 j (by omega)
  have hokL : ∀ k, k < (tP T j).1 → okL (tS T i) ((tP T j).2 k) := fun k hk => goT_okL hwS (hgo k hk).1
  obtain ⟨h0, h1, h2, h3, h4, h5, h6', h7, h8, h9, h10⟩ := id hSi
  obtain ⟨p0, ⟨pf, p1, p2⟩, p3⟩ := id hPj
  refine Ev.aload_n rfl rfl ?_
  refine Ev.iload_n rfl rfl ?_
  refine Ev.iload_n rfl rfl ?_
  refine Ev.cV2 rfl rfl (by assumption) rfl rfl (by decide) ⟨(Nat.le_refl _), (Nat.le_refl _)⟩ (going_some hX hT hw ⟨rfl, hi, rfl, hj, hgo⟩) ?_
  refine Ev.ifnull rfl ?_
  refine Ev.iconst (v := 1) rfl (by decide) ?_
  refine Ev.goto (tgt := 14) rfl (by decide) ?_
  refine Ev.iret (ty := .boolean) rfl rfl rfl (Nat.le_refl _) (Nat.le_refl _) ?_
  rw [← hQ]
  exact ⟨rfl, rfl⟩
theorem goes_none (hX : isX σ x) (hT : isT σ (x + 1) T) (hw : wT T) {u v : Int32} (hg : ¬ ∃ i j, gd T u v i j)  : RetV Γ m_SD_goes [.ref x, .int u, .int v] σ (.int (0)) := by
  unfold isX at hX
  obtain ⟨t0, t1, ⟨fs, t2, t3⟩, ⟨fp, t4, t5⟩, t6, t7⟩ := id hT
  unfold RetV
  generalize hQ : (fun (r : Option Value) (σ' : ex_S) => r = some ((.int (0)) : Value) ∧ σ' = σ) = Q
  refine Ret.start pm_9 rfl ?_
  have hw1 := hw.2.1
  refine Ev.aload_n rfl rfl ?_
  refine Ev.iload_n rfl rfl ?_
  refine Ev.iload_n rfl rfl ?_
  refine Ev.cV2 rfl rfl (by assumption) rfl rfl (by decide) ⟨(Nat.le_refl _), (Nat.le_refl _)⟩ (going_none hX hT hw hg) ?_
  refine Ev.ifnullN (tgt := 13) rfl (by decide) ?_
  refine Ev.iconst (v := 0) rfl (by decide) ?_
  refine Ev.iret (ty := .boolean) rfl rfl rfl (Nat.le_refl _) (Nat.le_refl _) ?_
  rw [← hQ]
  exact ⟨rfl, rfl⟩
theorem home_some (hX : isX σ x) (hT : isT σ (x + 1) T) (hw : wT T) {u v : Int32} {i j : Nat} (hg : gd T u v i j)  : RetV Γ m_SD_home [.ref x, .int u, .int v] σ (.int (K_all (tS T i) &&& (K_sits (tP T j) ^^^ -1))) := by
  unfold isX at hX
  obtain ⟨t0, t1, ⟨fs, t2, t3⟩, ⟨fp, t4, t5⟩, t6, t7⟩ := id hT
  unfold RetV
  generalize hQ : (fun (r : Option Value) (σ' : ex_S) => r = some ((.int (K_all (tS T i) &&& (K_sits (tP T j) ^^^ -1))) : Value) ∧ σ' = σ) = Q
  refine Ret.start pm_14 rfl ?_
  obtain ⟨rfl, hi, rfl, hj, hgo⟩ := hg
  have hw1 := hw.2.1
  have hw2 := hw.2.2.1
  have hwS := hw.2.2.2.1 i hi
  have hwP := hw.2.2.2.2 j hj
  have hn16 := hwS.1
  have hn5 := hwS.2.1
  have h6 := hwP.1
  have hSi := t6 i (by omega)
  have hPj := t7 j (by omega)
  have hokL : ∀ k, k < (tP T j).1 → okL (tS T i) ((tP T j).2 k) := fun k hk => goT_okL hwS (hgo k hk).1
  obtain ⟨h0, h1, h2, h3, h4, h5, h6', h7, h8, h9, h10⟩ := id hSi
  obtain ⟨p0, ⟨pf, p1, p2⟩, p3⟩ := id hPj
  refine Ev.aload_n rfl rfl ?_
  refine Ev.iload_n rfl rfl ?_
  refine Ev.iload_n rfl rfl ?_
  refine Ev.cV2 rfl rfl (by assumption) rfl rfl (by decide) ⟨(Nat.le_refl _), (Nat.le_refl _)⟩ (going_some hX hT hw ⟨rfl, hi, rfl, hj, hgo⟩) ?_
  refine Ev.astore_n rfl rfl rfl ?_
  refine Ev.aload_n rfl rfl ?_
  refine Ev.getf rfl rfl (by assumption) rfl ?_
  refine Ev.iload_n rfl rfl ?_
  refine Ev.cV1 rfl rfl (by assumption) rfl rfl (by decide) ⟨(Nat.le_refl _), (Nat.le_refl _)⟩ (schoolAt_some hT hw1 hi) ?_
  refine Ev.astore rfl rfl rfl ?_
  refine Ev.aload_n rfl rfl ?_
  refine Ev.ifnull rfl ?_
  refine Ev.aload rfl rfl ?_
  refine Ev.ifnonnull (tgt := 30) rfl (by decide) ?_
  refine Ev.aload rfl rfl ?_
  refine Ev.cV0 rfl rfl (by assumption) rfl rfl (by decide) ⟨(Nat.le_refl _), (Nat.le_refl _)⟩ (all_ok hSi) ?_
  refine Ev.aload_n rfl rfl ?_
  refine Ev.cV0 rfl rfl (by assumption) rfl rfl (by decide) ⟨(Nat.le_refl _), (Nat.le_refl _)⟩ (seated_ok hPj hwP) ?_
  refine Ev.iconst (v := (-1)) rfl (by decide) ?_
  refine Ev.ixor rfl ?_
  refine Ev.iand rfl ?_
  refine Ev.iret (ty := .int) rfl rfl rfl (Nat.le_refl _) (Nat.le_refl _) ?_
  rw [← hQ]
  exact ⟨rfl, rfl⟩
theorem home_none (hX : isX σ x) (hT : isT σ (x + 1) T) (hw : wT T) {u v : Int32} (hg : ¬ ∃ i j, gd T u v i j)  : RetV Γ m_SD_home [.ref x, .int u, .int v] σ (.int (-1)) := by
  unfold isX at hX
  obtain ⟨t0, t1, ⟨fs, t2, t3⟩, ⟨fp, t4, t5⟩, t6, t7⟩ := id hT
  unfold RetV
  generalize hQ : (fun (r : Option Value) (σ' : ex_S) => r = some ((.int (-1)) : Value) ∧ σ' = σ) = Q
  refine Ret.start pm_14 rfl ?_
  have hw1 := hw.2.1
  rcases ix_cases u (n := tSn T) (by omega) with hu | hu | ⟨i, hi, rfl⟩
  · skip
    refine Ev.aload_n rfl rfl ?_
    refine Ev.iload_n rfl rfl ?_
    refine Ev.iload_n rfl rfl ?_
    refine Ev.cV2 rfl rfl (by assumption) rfl rfl (by decide) ⟨(Nat.le_refl _), (Nat.le_refl _)⟩ (going_none hX hT hw hg) ?_
    refine Ev.astore_nN rfl rfl rfl ?_
    refine Ev.aload_n rfl rfl ?_
    refine Ev.getf rfl rfl (by assumption) rfl ?_
    refine Ev.iload_n rfl rfl ?_
    refine Ev.cV1 rfl rfl (by assumption) rfl rfl (by decide) ⟨(Nat.le_refl _), (Nat.le_refl _)⟩ (schoolAt_none hT (Or.inl hu)) ?_
    refine Ev.astoreN rfl rfl rfl ?_
    refine Ev.aload_nN rfl rfl ?_
    refine Ev.ifnullN (tgt := 26) rfl (by decide) ?_
    refine Ev.iconst (v := (-1)) rfl (by decide) ?_
    refine Ev.goto (tgt := 42) rfl (by decide) ?_
    refine Ev.iret (ty := .int) rfl rfl rfl (Nat.le_refl _) (Nat.le_refl _) ?_
    rw [← hQ]
    exact ⟨rfl, rfl⟩
  · skip
    refine Ev.aload_n rfl rfl ?_
    refine Ev.iload_n rfl rfl ?_
    refine Ev.iload_n rfl rfl ?_
    refine Ev.cV2 rfl rfl (by assumption) rfl rfl (by decide) ⟨(Nat.le_refl _), (Nat.le_refl _)⟩ (going_none hX hT hw hg) ?_
    refine Ev.astore_nN rfl rfl rfl ?_
    refine Ev.aload_n rfl rfl ?_
    refine Ev.getf rfl rfl (by assumption) rfl ?_
    refine Ev.iload_n rfl rfl ?_
    refine Ev.cV1 rfl rfl (by assumption) rfl rfl (by decide) ⟨(Nat.le_refl _), (Nat.le_refl _)⟩ (schoolAt_none hT (Or.inr hu)) ?_
    refine Ev.astoreN rfl rfl rfl ?_
    refine Ev.aload_nN rfl rfl ?_
    refine Ev.ifnullN (tgt := 26) rfl (by decide) ?_
    refine Ev.iconst (v := (-1)) rfl (by decide) ?_
    refine Ev.goto (tgt := 42) rfl (by decide) ?_
    refine Ev.iret (ty := .int) rfl rfl rfl (Nat.le_refl _) (Nat.le_refl _) ?_
    rw [← hQ]
    exact ⟨rfl, rfl⟩
  · skip
    refine Ev.aload_n rfl rfl ?_
    refine Ev.iload_n rfl rfl ?_
    refine Ev.iload_n rfl rfl ?_
    refine Ev.cV2 rfl rfl (by assumption) rfl rfl (by decide) ⟨(Nat.le_refl _), (Nat.le_refl _)⟩ (going_none hX hT hw hg) ?_
    refine Ev.astore_nN rfl rfl rfl ?_
    refine Ev.aload_n rfl rfl ?_
    refine Ev.getf rfl rfl (by assumption) rfl ?_
    refine Ev.iload_n rfl rfl ?_
    refine Ev.cV1 rfl rfl (by assumption) rfl rfl (by decide) ⟨(Nat.le_refl _), (Nat.le_refl _)⟩ (schoolAt_some hT hw1 hi) ?_
    refine Ev.astore rfl rfl rfl ?_
    refine Ev.aload_nN rfl rfl ?_
    refine Ev.ifnullN (tgt := 26) rfl (by decide) ?_
    refine Ev.iconst (v := (-1)) rfl (by decide) ?_
    refine Ev.goto (tgt := 42) rfl (by decide) ?_
    refine Ev.iret (ty := .int) rfl rfl rfl (Nat.le_refl _) (Nat.le_refl _) ?_
    rw [← hQ]
    exact ⟨rfl, rfl⟩
theorem coin_some (hX : isX σ x) (hT : isT σ (x + 1) T) (hw : wT T) {u v : Int32} {i j : Nat} (hg : gd T u v i j)  : RetV Γ m_SD_coin [.ref x, .int u, .int v] σ (.int ((tS T i).2.2 9 6 * K_taken (tP T j) - (tS T i).2.2 9 5 * nI (tP T j).1)) := by
  unfold isX at hX
  obtain ⟨t0, t1, ⟨fs, t2, t3⟩, ⟨fp, t4, t5⟩, t6, t7⟩ := id hT
  unfold RetV
  generalize hQ : (fun (r : Option Value) (σ' : ex_S) => r = some ((.int ((tS T i).2.2 9 6 * K_taken (tP T j) - (tS T i).2.2 9 5 * nI (tP T j).1)) : Value) ∧ σ' = σ) = Q
  refine Ret.start pm_15 rfl ?_
  obtain ⟨rfl, hi, rfl, hj, hgo⟩ := hg
  have hw1 := hw.2.1
  have hw2 := hw.2.2.1
  have hwS := hw.2.2.2.1 i hi
  have hwP := hw.2.2.2.2 j hj
  have hn16 := hwS.1
  have hn5 := hwS.2.1
  have h6 := hwP.1
  have hSi := t6 i (by omega)
  have hPj := t7 j (by omega)
  have hokL : ∀ k, k < (tP T j).1 → okL (tS T i) ((tP T j).2 k) := fun k hk => goT_okL hwS (hgo k hk).1
  obtain ⟨h0, h1, h2, h3, h4, h5, h6', h7, h8, h9, h10⟩ := id hSi
  obtain ⟨p0, ⟨pf, p1, p2⟩, p3⟩ := id hPj
  refine Ev.aload_n rfl rfl ?_
  refine Ev.iload_n rfl rfl ?_
  refine Ev.iload_n rfl rfl ?_
  refine Ev.cV2 rfl rfl (by assumption) rfl rfl (by decide) ⟨(Nat.le_refl _), (Nat.le_refl _)⟩ (going_some hX hT hw ⟨rfl, hi, rfl, hj, hgo⟩) ?_
  refine Ev.astore_n rfl rfl rfl ?_
  refine Ev.aload_n rfl rfl ?_
  refine Ev.getf rfl rfl (by assumption) rfl ?_
  refine Ev.iload_n rfl rfl ?_
  refine Ev.cV1 rfl rfl (by assumption) rfl rfl (by decide) ⟨(Nat.le_refl _), (Nat.le_refl _)⟩ (schoolAt_some hT hw1 hi) ?_
  refine Ev.astore rfl rfl rfl ?_
  refine Ev.aload_n rfl rfl ?_
  refine Ev.ifnull rfl ?_
  refine Ev.aload rfl rfl ?_
  refine Ev.ifnonnull (tgt := 29) rfl (by decide) ?_
  refine Ev.aload rfl rfl ?_
  refine Ev.getf rfl rfl (by assumption) rfl ?_
  refine Ev.bipush (v := 6) rfl (by decide) ?_
  refine Ev.ialdN (k := 6) rfl (by assumption) (by decide) ⟨(by decide), by decide⟩ ?_
  refine Ev.aload_n rfl rfl ?_
  refine Ev.cV0 rfl rfl (by assumption) rfl rfl (by decide) ⟨(Nat.le_refl _), (Nat.le_refl _)⟩ (taken_ok hPj h6) ?_
  refine Ev.imul rfl ?_
  refine Ev.aload rfl rfl ?_
  refine Ev.getf rfl rfl (by assumption) rfl ?_
  refine Ev.iconst (v := 5) rfl (by decide) ?_
  refine Ev.ialdN (k := 5) rfl (by assumption) (by decide) ⟨(by decide), by decide⟩ ?_
  refine Ev.aload_n rfl rfl ?_
  refine Ev.getf rfl rfl (by assumption) rfl ?_
  refine Ev.imul rfl ?_
  refine Ev.isub rfl ?_
  refine Ev.iret (ty := .int) rfl rfl rfl (Nat.le_refl _) (Nat.le_refl _) ?_
  rw [← hQ]
  exact ⟨rfl, rfl⟩
theorem coin_none (hX : isX σ x) (hT : isT σ (x + 1) T) (hw : wT T) {u v : Int32} (hg : ¬ ∃ i j, gd T u v i j)  : RetV Γ m_SD_coin [.ref x, .int u, .int v] σ (.int (-1000000)) := by
  unfold isX at hX
  obtain ⟨t0, t1, ⟨fs, t2, t3⟩, ⟨fp, t4, t5⟩, t6, t7⟩ := id hT
  unfold RetV
  generalize hQ : (fun (r : Option Value) (σ' : ex_S) => r = some ((.int (-1000000)) : Value) ∧ σ' = σ) = Q
  refine Ret.start pm_15 rfl ?_
  have hw1 := hw.2.1
  rcases ix_cases u (n := tSn T) (by omega) with hu | hu | ⟨i, hi, rfl⟩
  · skip
    refine Ev.aload_n rfl rfl ?_
    refine Ev.iload_n rfl rfl ?_
    refine Ev.iload_n rfl rfl ?_
    refine Ev.cV2 rfl rfl (by assumption) rfl rfl (by decide) ⟨(Nat.le_refl _), (Nat.le_refl _)⟩ (going_none hX hT hw hg) ?_
    refine Ev.astore_nN rfl rfl rfl ?_
    refine Ev.aload_n rfl rfl ?_
    refine Ev.getf rfl rfl (by assumption) rfl ?_
    refine Ev.iload_n rfl rfl ?_
    refine Ev.cV1 rfl rfl (by assumption) rfl rfl (by decide) ⟨(Nat.le_refl _), (Nat.le_refl _)⟩ (schoolAt_none hT (Or.inl hu)) ?_
    refine Ev.astoreN rfl rfl rfl ?_
    refine Ev.aload_nN rfl rfl ?_
    refine Ev.ifnullN (tgt := 26) rfl (by decide) ?_
    refine Ev.ldc (v := (-1000000)) rfl rfl ?_
    refine Ev.iret (ty := .int) rfl rfl rfl (Nat.le_refl _) (Nat.le_refl _) ?_
    rw [← hQ]
    exact ⟨rfl, rfl⟩
  · skip
    refine Ev.aload_n rfl rfl ?_
    refine Ev.iload_n rfl rfl ?_
    refine Ev.iload_n rfl rfl ?_
    refine Ev.cV2 rfl rfl (by assumption) rfl rfl (by decide) ⟨(Nat.le_refl _), (Nat.le_refl _)⟩ (going_none hX hT hw hg) ?_
    refine Ev.astore_nN rfl rfl rfl ?_
    refine Ev.aload_n rfl rfl ?_
    refine Ev.getf rfl rfl (by assumption) rfl ?_
    refine Ev.iload_n rfl rfl ?_
    refine Ev.cV1 rfl rfl (by assumption) rfl rfl (by decide) ⟨(Nat.le_refl _), (Nat.le_refl _)⟩ (schoolAt_none hT (Or.inr hu)) ?_
    refine Ev.astoreN rfl rfl rfl ?_
    refine Ev.aload_nN rfl rfl ?_
    refine Ev.ifnullN (tgt := 26) rfl (by decide) ?_
    refine Ev.ldc (v := (-1000000)) rfl rfl ?_
    refine Ev.iret (ty := .int) rfl rfl rfl (Nat.le_refl _) (Nat.le_refl _) ?_
    rw [← hQ]
    exact ⟨rfl, rfl⟩
  · skip
    refine Ev.aload_n rfl rfl ?_
    refine Ev.iload_n rfl rfl ?_
    refine Ev.iload_n rfl rfl ?_
    refine Ev.cV2 rfl rfl (by assumption) rfl rfl (by decide) ⟨(Nat.le_refl _), (Nat.le_refl _)⟩ (going_none hX hT hw hg) ?_
    refine Ev.astore_nN rfl rfl rfl ?_
    refine Ev.aload_n rfl rfl ?_
    refine Ev.getf rfl rfl (by assumption) rfl ?_
    refine Ev.iload_n rfl rfl ?_
    refine Ev.cV1 rfl rfl (by assumption) rfl rfl (by decide) ⟨(Nat.le_refl _), (Nat.le_refl _)⟩ (schoolAt_some hT hw1 hi) ?_
    refine Ev.astore rfl rfl rfl ?_
    refine Ev.aload_nN rfl rfl ?_
    refine Ev.ifnullN (tgt := 26) rfl (by decide) ?_
    refine Ev.ldc (v := (-1000000)) rfl rfl ?_
    refine Ev.iret (ty := .int) rfl rfl rfl (Nat.le_refl _) (Nat.le_refl _) ?_
    rw [← hQ]
    exact ⟨rfl, rfl⟩
def K_count (T : Tol) (w : Int32) : Int32 := if w = 0 then nI (tSn T) else if w = 1 then nI (tPn T) else -2
def K_fault (T : Tol) (w : Int32) : Int32 := if w = 0 then tF T else if w = 1 then tQ T else -1
theorem count_ok (hX : isX σ x) (hT : isT σ (x + 1) T) (w : Int32) : RetV Γ m_SD_count [.ref x, .int w] σ (.int (K_count T w)) := by
  unfold isX at hX
  obtain ⟨t0, t1, ⟨fs, t2, t3⟩, ⟨fp, t4, t5⟩, t6, t7⟩ := id hT
  unfold RetV
  generalize hQ : (fun (r : Option Value) (σ' : ex_S) => r = some ((.int (K_count T w)) : Value) ∧ σ' = σ) = Q
  refine Ret.start pm_44 rfl ?_
  refine Ev.iload_n rfl rfl ?_
  refine Ev.if_ne (tgt := 14) rfl (by decide) (fun c1 => ?_) (fun c1 => ?_)
  · skip
    refine Ev.iload_n rfl rfl ?_
    refine Ev.iconst (v := 1) rfl (by decide) ?_
    refine Ev.icmp_ne (tgt := 29) rfl (by decide) (fun c16 => ?_) (fun c16 => ?_)
    · skip
      refine Ev.bipush (v := (-2)) rfl (by decide) ?_
      refine Ev.iret (ty := .int) rfl rfl rfl (Nat.le_refl _) (Nat.le_refl _) ?_
      rw [← hQ]
      exact ⟨by simp [K_count, *], rfl⟩
    · skip
      refine Ev.aload_n rfl rfl ?_
      refine Ev.getf rfl rfl (by assumption) rfl ?_
      refine Ev.getf rfl rfl (by assumption) rfl ?_
      refine Ev.goto (tgt := 31) rfl (by decide) ?_
      refine Ev.iret (ty := .int) rfl rfl rfl (Nat.le_refl _) (Nat.le_refl _) ?_
      rw [← hQ]
      exact ⟨by simp [K_count, *], rfl⟩
  · skip
    refine Ev.aload_n rfl rfl ?_
    refine Ev.getf rfl rfl (by assumption) rfl ?_
    refine Ev.getf rfl rfl (by assumption) rfl ?_
    refine Ev.goto (tgt := 31) rfl (by decide) ?_
    refine Ev.iret (ty := .int) rfl rfl rfl (Nat.le_refl _) (Nat.le_refl _) ?_
    rw [← hQ]
    exact ⟨by simp [K_count, *], rfl⟩
theorem fault_ok (hX : isX σ x) (hT : isT σ (x + 1) T) (w : Int32) : RetV Γ m_SD_fault [.ref x, .int w] σ (.int (K_fault T w)) := by
  unfold isX at hX
  obtain ⟨t0, t1, ⟨fs, t2, t3⟩, ⟨fp, t4, t5⟩, t6, t7⟩ := id hT
  unfold RetV
  generalize hQ : (fun (r : Option Value) (σ' : ex_S) => r = some ((.int (K_fault T w)) : Value) ∧ σ' = σ) = Q
  refine Ret.start pm_5 rfl ?_
  refine Ev.iload_n rfl rfl ?_
  refine Ev.if_ne (tgt := 14) rfl (by decide) (fun c1 => ?_) (fun c1 => ?_)
  · skip
    refine Ev.iload_n rfl rfl ?_
    refine Ev.iconst (v := 1) rfl (by decide) ?_
    refine Ev.icmp_ne (tgt := 29) rfl (by decide) (fun c16 => ?_) (fun c16 => ?_)
    · skip
      refine Ev.iconst (v := (-1)) rfl (by decide) ?_
      refine Ev.iret (ty := .int) rfl rfl rfl (Nat.le_refl _) (Nat.le_refl _) ?_
      rw [← hQ]
      exact ⟨by simp [K_fault, *], rfl⟩
    · skip
      refine Ev.aload_n rfl rfl ?_
      refine Ev.getf rfl rfl (by assumption) rfl ?_
      refine Ev.getf rfl rfl (by assumption) rfl ?_
      refine Ev.goto (tgt := 30) rfl (by decide) ?_
      refine Ev.iret (ty := .int) rfl rfl rfl (Nat.le_refl _) (Nat.le_refl _) ?_
      rw [← hQ]
      exact ⟨by simp [K_fault, *], rfl⟩
  · skip
    refine Ev.aload_n rfl rfl ?_
    refine Ev.getf rfl rfl (by assumption) rfl ?_
    refine Ev.getf rfl rfl (by assumption) rfl ?_
    refine Ev.goto (tgt := 30) rfl (by decide) ?_
    refine Ev.iret (ty := .int) rfl rfl rfl (Nat.le_refl _) (Nat.le_refl _) ?_
    rw [← hQ]
    exact ⟨by simp [K_fault, *], rfl⟩
end
end
