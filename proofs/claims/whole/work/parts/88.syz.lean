/-! The reference: what is told of a school (printed by sym.py). -/
noncomputable section
theorem in0 {w : Int32} (h : ¬ K_in w 0 12 = 0) : ∃ k, k < 13 ∧ w = nI k := by
  unfold K_in at h
  by_cases c : w < 0
  · rw [if_pos c] at h
    exact absurd rfl h
  · rw [if_neg c] at h
    by_cases d : (12 : Int32) < w
    · rw [if_pos d] at h
      exact absurd rfl h
    · rw [lt_toInt, show (0 : Int32).toInt = 0 from by decide] at c
      rw [lt_toInt, show (12 : Int32).toInt = 12 from by decide] at d
      obtain ⟨n, n1, n2⟩ := rg_n (x := w) (lo := 0) (hi := 12) ⟨by omega, by omega⟩ (by decide) (b := 12) (by decide)
      exact ⟨n, by omega, n2⟩
/-- a school's first numbers -/
def rdv (S : Sch) (k : Nat) : Int32 := if k = 0 then nI S.1 else if k = 1 then nI S.2.1 else S.2.2 9 (k - 2)
theorem rd12 {A : Nat → Int32} {s k : Nat} {S : Sch} (h : mS A s S) (hk : k < 13) : A (s + k) = rdv S k := by
  unfold rdv
  by_cases c : k = 0
  · rw [if_pos c, c]
    exact h.1
  · rw [if_neg c]
    by_cases d : k = 1
    · rw [if_pos d, d]
      exact h.2.1
    · rw [if_neg d, ← h.2.2.1 (k - 2) (by omega), show s + 2 + (k - 2) = s + k by omega]
section
variable {Γ : ex_G} {σ : ex_S} {x q a p y : Nat} {S : Sch} {T : Tol} {P : Pln} {g A : Nat → Int32}
def K_m_about (T : Tol) (i : Nat) (w : Int32) : Int32 := if (K_in w (0 : Int32) (12 : Int32)) = (0 : Int32) then (if (K_in w (20 : Int32) ((19 : Int32) + (nI ((tS T i).2.1)))) = (0 : Int32) then (if (K_in w (30 : Int32) ((29 : Int32) + (nI ((tS T i).2.1)))) = (0 : Int32) then (if (K_in w (40 : Int32) (46 : Int32)) = (0 : Int32) then (if (K_in w (50 : Int32) (56 : Int32)) = (0 : Int32) then (-1 : Int32) else ((tS T i).2.2 8 (w - 50).toNatClampNeg)) else ((tS T i).2.2 7 (w - 40).toNatClampNeg)) else ((tS T i).2.2 6 (w - 30).toNatClampNeg)) else ((tS T i).2.2 5 (w - 20).toNatClampNeg)) else (rdv (tS T i) w.toNatClampNeg)
theorem m_about_some (hM : isM σ y g A) (hT : mT A 0 T) (hw : wT T) {u : Int32} {i : Nat} (hg : u = nI i ∧ i < tSn T) (w : Int32) : RetV Γ m_M_about [(.ref y), .int u, (.int w)] σ (.int (K_m_about T i w)) := by
  obtain ⟨m0, m1⟩ := id hM
  obtain ⟨rfl, hi⟩ := hg
  have hi3 : i < 3 := by have := hw.2.1; omega
  have hwS := hw.2.2.2.1 i hi
  have hn16 := hwS.1
  have hn5 := hwS.2.1
  have hS := hT.s hi
  have hs : 610 + 120 * i + 120 ≤ 4500 := by omega
  have hn5 := hwS.2.1
  unfold RetV
  generalize hQ : (fun (r : Option Value) (σ' : ex_S) => r = some ((.int (K_m_about T i w)) : Value) ∧ σ' = σ) = Q
  refine Ret.start pm_193 rfl ?_
  refine Ev.aload_n rfl rfl ?_
  refine Ev.iconst (v := 0) rfl (by decide) ?_
  refine Ev.iload_n rfl rfl ?_
  refine Ev.cV2 rfl rfl m0 rfl rfl (by decide) ⟨(Nat.le_refl _), (Nat.le_refl _)⟩ (m_isOf0_yes hM hT hw hi) ?_
  refine Ev.zne (tgt := 11) rfl (by decide) (fun c6 => ?_) (fun c6 => absurd c6 (by decide))
  refine Ev.iconst (v := 0) rfl (by decide) ?_
  refine Ev.iload_n rfl rfl ?_
  refine Ev.cS2 rfl rfl rfl (by decide) ⟨(Nat.le_refl _), (Nat.le_refl _)⟩ (m_pl0_ok i) ?_
  refine Ev.istore_n rfl rfl rfl ?_
  refine Ev.iload_n rfl rfl ?_
  refine Ev.iconst (v := 0) rfl (by decide) ?_
  refine Ev.bipush (v := 12) rfl (by decide) ?_
  refine Ev.cS3 rfl rfl rfl (by decide) ⟨(Nat.le_refl _), (Nat.le_refl _)⟩ (m_in_ok _ _ _) ?_
  refine Ev.zeq (tgt := 36) rfl (by decide) (fun c24 => ?_) (fun c24 => ?_)
  · skip
    refine Ev.iload_n rfl rfl ?_
    refine Ev.bipush (v := 20) rfl (by decide) ?_
    refine Ev.bipush (v := 19) rfl (by decide) ?_
    refine Ev.aload_n rfl rfl ?_
    refine Ev.getf rfl rfl m0 rfl ?_
    refine Ev.iload_n rfl rfl ?_
    refine Ev.iconst (v := 1) rfl (by decide) ?_
    refine Ev.iadd rfl ?_
    refine Ev.ialdN (k := 610 + 120 * i + 1) rfl m1 (nq_to (a := 610 + 120 * i + 1) (nq_add (a := 610 + 120 * i) (b := 1) rfl (rfl : (1 : Int32) = nI 1)) (by omega)) ⟨(by omega), by decide⟩ ?_
    rw [hS.2.1]
    refine Ev.iadd rfl ?_
    refine Ev.cS3 rfl rfl rfl (by decide) ⟨(Nat.le_refl _), (Nat.le_refl _)⟩ (m_in_ok _ _ _) ?_
    refine Ev.zeq (tgt := 71) rfl (by decide) (fun c53 => ?_) (fun c53 => ?_)
    · skip
      refine Ev.iload_n rfl rfl ?_
      refine Ev.bipush (v := 30) rfl (by decide) ?_
      refine Ev.bipush (v := 29) rfl (by decide) ?_
      refine Ev.aload_n rfl rfl ?_
      refine Ev.getf rfl rfl m0 rfl ?_
      refine Ev.iload_n rfl rfl ?_
      refine Ev.iconst (v := 1) rfl (by decide) ?_
      refine Ev.iadd rfl ?_
      refine Ev.ialdN (k := 610 + 120 * i + 1) rfl m1 (nq_to (a := 610 + 120 * i + 1) (nq_add (a := 610 + 120 * i) (b := 1) rfl (rfl : (1 : Int32) = nI 1)) (by omega)) ⟨(by omega), by decide⟩ ?_
      rw [hS.2.1]
      refine Ev.iadd rfl ?_
      refine Ev.cS3 rfl rfl rfl (by decide) ⟨(Nat.le_refl _), (Nat.le_refl _)⟩ (m_in_ok _ _ _) ?_
      refine Ev.zeq (tgt := 106) rfl (by decide) (fun c88 => ?_) (fun c88 => ?_)
      · skip
        refine Ev.iload_n rfl rfl ?_
        refine Ev.bipush (v := 40) rfl (by decide) ?_
        refine Ev.bipush (v := 46) rfl (by decide) ?_
        refine Ev.cS3 rfl rfl rfl (by decide) ⟨(Nat.le_refl _), (Nat.le_refl _)⟩ (m_in_ok _ _ _) ?_
        refine Ev.zeq (tgt := 132) rfl (by decide) (fun c114 => ?_) (fun c114 => ?_)
        · skip
          refine Ev.iload_n rfl rfl ?_
          refine Ev.bipush (v := 50) rfl (by decide) ?_
          refine Ev.bipush (v := 56) rfl (by decide) ?_
          refine Ev.cS3 rfl rfl rfl (by decide) ⟨(Nat.le_refl _), (Nat.le_refl _)⟩ (m_in_ok _ _ _) ?_
          refine Ev.zeq (tgt := 160) rfl (by decide) (fun c140 => ?_) (fun c140 => ?_)
          · skip
            refine Ev.iconst (v := (-1)) rfl (by decide) ?_
            refine Ev.iret (ty := .int) rfl rfl rfl (Nat.le_refl _) (Nat.le_refl _) ?_
            rw [← hQ]
            refine ⟨congrArg (fun v => some (Value.int v)) (Eq.symm ?_), rfl⟩
            unfold K_m_about
            rw [if_pos c24]
            rw [if_pos c53]
            rw [if_pos c88]
            rw [if_pos c114]
            rw [if_pos c140]
          · skip
            refine Ev.aload_n rfl rfl ?_
            refine Ev.getf rfl rfl m0 rfl ?_
            refine Ev.iload_n rfl rfl ?_
            refine Ev.bipush (v := 110) rfl (by decide) ?_
            refine Ev.iadd rfl ?_
            refine Ev.iload_n rfl rfl ?_
            refine Ev.iadd rfl ?_
            refine Ev.bipush (v := 50) rfl (by decide) ?_
            refine Ev.isub rfl ?_
            obtain ⟨kk, hkk, ekk, ewk⟩ := in_ix (A := 50) (n := 7) c140 rfl rfl (by omega)
            rw [ekk]
            refine Ev.ialdN (k := 610 + 120 * i + 110 + kk) rfl m1 (by rw [show (110 : Int32) = nI 110 from rfl, nI_add, nI_add, show (50 : Int32) = nI 50 from rfl, pk_sub (by omega)]; exact congrArg nI (by omega)) ⟨(by omega), by decide⟩ ?_
            rw [(hS.2.2.2.2.2 kk hkk).2]
            rw [show kk = (w - 50).toNatClampNeg from by rw [ewk, nI_clamp (by omega)]]
            refine Ev.goto (tgt := 161) rfl (by decide) ?_
            refine Ev.iret (ty := .int) rfl rfl rfl (Nat.le_refl _) (Nat.le_refl _) ?_
            rw [← hQ]
            refine ⟨congrArg (fun v => some (Value.int v)) (Eq.symm ?_), rfl⟩
            unfold K_m_about
            rw [if_pos c24]
            rw [if_pos c53]
            rw [if_pos c88]
            rw [if_pos c114]
            rw [if_neg c140]
        · skip
          refine Ev.aload_n rfl rfl ?_
          refine Ev.getf rfl rfl m0 rfl ?_
          refine Ev.iload_n rfl rfl ?_
          refine Ev.bipush (v := 103) rfl (by decide) ?_
          refine Ev.iadd rfl ?_
          refine Ev.iload_n rfl rfl ?_
          refine Ev.iadd rfl ?_
          refine Ev.bipush (v := 40) rfl (by decide) ?_
          refine Ev.isub rfl ?_
          obtain ⟨kk, hkk, ekk, ewk⟩ := in_ix (A := 40) (n := 7) c114 rfl rfl (by omega)
          rw [ekk]
          refine Ev.ialdN (k := 610 + 120 * i + 103 + kk) rfl m1 (by rw [show (103 : Int32) = nI 103 from rfl, nI_add, nI_add, show (40 : Int32) = nI 40 from rfl, pk_sub (by omega)]; exact congrArg nI (by omega)) ⟨(by omega), by decide⟩ ?_
          rw [(hS.2.2.2.2.2 kk hkk).1]
          rw [show kk = (w - 40).toNatClampNeg from by rw [ewk, nI_clamp (by omega)]]
          refine Ev.iret (ty := .int) rfl rfl rfl (Nat.le_refl _) (Nat.le_refl _) ?_
          rw [← hQ]
          refine ⟨congrArg (fun v => some (Value.int v)) (Eq.symm ?_), rfl⟩
          unfold K_m_about
          rw [if_pos c24]
          rw [if_pos c53]
          rw [if_pos c88]
          rw [if_neg c114]
      · skip
        refine Ev.aload_n rfl rfl ?_
        refine Ev.getf rfl rfl m0 rfl ?_
        refine Ev.iload_n rfl rfl ?_
        refine Ev.bipush (v := 98) rfl (by decide) ?_
        refine Ev.iadd rfl ?_
        refine Ev.iload_n rfl rfl ?_
        refine Ev.iadd rfl ?_
        refine Ev.bipush (v := 30) rfl (by decide) ?_
        refine Ev.isub rfl ?_
        obtain ⟨kk, hkk, ekk, ewk⟩ := in_ix (A := 30) (n := (tS T i).2.1) c88 rfl (by rw [show (29 : Int32) = nI 29 from rfl, nI_add]; exact congrArg nI (by omega)) (by omega)
        rw [ekk]
        refine Ev.ialdN (k := 610 + 120 * i + 98 + kk) rfl m1 (by rw [show (98 : Int32) = nI 98 from rfl, nI_add, nI_add, show (30 : Int32) = nI 30 from rfl, pk_sub (by omega)]; exact congrArg nI (by omega)) ⟨(by omega), by decide⟩ ?_
        rw [(hS.2.2.2.2.1 kk hkk).2]
        rw [show kk = (w - 30).toNatClampNeg from by rw [ewk, nI_clamp (by omega)]]
        refine Ev.iret (ty := .int) rfl rfl rfl (Nat.le_refl _) (Nat.le_refl _) ?_
        rw [← hQ]
        refine ⟨congrArg (fun v => some (Value.int v)) (Eq.symm ?_), rfl⟩
        unfold K_m_about
        rw [if_pos c24]
        rw [if_pos c53]
        rw [if_neg c88]
    · skip
      refine Ev.aload_n rfl rfl ?_
      refine Ev.getf rfl rfl m0 rfl ?_
      refine Ev.iload_n rfl rfl ?_
      refine Ev.bipush (v := 93) rfl (by decide) ?_
      refine Ev.iadd rfl ?_
      refine Ev.iload_n rfl rfl ?_
      refine Ev.iadd rfl ?_
      refine Ev.bipush (v := 20) rfl (by decide) ?_
      refine Ev.isub rfl ?_
      obtain ⟨kk, hkk, ekk, ewk⟩ := in_ix (A := 20) (n := (tS T i).2.1) c53 rfl (by rw [show (19 : Int32) = nI 19 from rfl, nI_add]; exact congrArg nI (by omega)) (by omega)
      rw [ekk]
      refine Ev.ialdN (k := 610 + 120 * i + 93 + kk) rfl m1 (by rw [show (93 : Int32) = nI 93 from rfl, nI_add, nI_add, show (20 : Int32) = nI 20 from rfl, pk_sub (by omega)]; exact congrArg nI (by omega)) ⟨(by omega), by decide⟩ ?_
      rw [(hS.2.2.2.2.1 kk hkk).1]
      rw [show kk = (w - 20).toNatClampNeg from by rw [ewk, nI_clamp (by omega)]]
      refine Ev.iret (ty := .int) rfl rfl rfl (Nat.le_refl _) (Nat.le_refl _) ?_
      rw [← hQ]
      refine ⟨congrArg (fun v => some (Value.int v)) (Eq.symm ?_), rfl⟩
      unfold K_m_about
      rw [if_pos c24]
      rw [if_neg c53]
  · skip
    refine Ev.aload_n rfl rfl ?_
    refine Ev.getf rfl rfl m0 rfl ?_
    refine Ev.iload_n rfl rfl ?_
    refine Ev.iload_n rfl rfl ?_
    refine Ev.iadd rfl ?_
    obtain ⟨kk, hkk, ekk⟩ := in0 c24
    rw [ekk]
    refine Ev.ialdN (k := 610 + 120 * i + kk) rfl m1 (nI_add _ _) ⟨(by omega), by decide⟩ ?_
    rw [rd12 hS hkk, show kk = w.toNatClampNeg from by rw [ekk, nI_clamp (by omega)]]
    refine Ev.iret (ty := .int) rfl rfl rfl (Nat.le_refl _) (Nat.le_refl _) ?_
    rw [← hQ]
    refine ⟨congrArg (fun v => some (Value.int v)) (Eq.symm ?_), rfl⟩
    unfold K_m_about
    rw [if_neg c24]
end
end
