/-! lonely on both sides. -/
noncomputable section
theorem abs_eq (x : Int32) : (if 0 ≤ x then x else 0 - x) = K_abs x := by
  unfold K_abs
  rw [Int32.zero_sub]
theorem two_le {a : Int32} : 2 ≤ a ↔ 1 < a := by
  have e1 : (1 : Int32).toInt = 1 := by decide
  have e2 : (2 : Int32).toInt = 2 := by decide
  rw [le_toInt, lt_toInt, e1, e2]
  omega
def K_near (S : Sch) (l o : Nat) : Int32 := if nI o = nI l then 0 else if 1 < K_abs (S.2.2 0 o - S.2.2 0 l) then 0 else if S.2.2 1 o &&& S.2.2 1 l = 0 then 0 else 1
def F_comp (S : Sch) (l o : Nat) (x : Int32) : Int32 := if x = 0 then K_near S l o else 1
def K_comp (S : Sch) (l : Nat) : Int32 := fo (F_comp S l) S.1 0 0
theorem comp_1 (S : Sch) (l k i : Nat) : fo (F_comp S l) k i 1 = 1 := by
  induction k generalizing i with
  | zero => rfl
  | succ k ih => rw [fo_succ, show F_comp S l i 1 = 1 from rfl]; exact ih _
def F_lon (S : Sch) (l : Nat) (x : Int32) : Int32 := if K_comp S l = 0 then x ||| (1 : Int32) <<< (nI l &&& 31) else x
def K_lon (S : Sch) : Int32 := fo (F_lon S) S.1 0 0
section
variable {Γ : ex_G} {σ : ex_S} {x q a p y : Nat} {S : Sch} {T : Tol} {P : Pln} {g A : Nat → Int32}
theorem comp_ok (hS : isS σ a S) (hn : S.1 ≤ 16) (l : Nat) (hl : l < S.1) : RetV Γ m_School_hasCompany [.ref a, .int (nI l)] σ (.int (K_comp S l)) := by
  obtain ⟨h0, h1, h2, h3, h4, h5, h6, h7, h8, h9, h10⟩ := id hS
  unfold RetV
  generalize hQ : (fun (r : Option Value) (σ' : ex_S) => r = some ((.int (K_comp S l)) : Value) ∧ σ' = σ) = Q
  refine Ret.start pm_100 rfl ?_
  refine Ev.iconst (v := 0) rfl (by decide) ?_
  refine Ev.istore_n rfl rfl rfl ?_
  skip
  refine Ev.cg (L' := [some (.ref a), some (.int (nI l)), some (.int (nI 0)), none]) ?_ (by first | rfl | simp [nI_0])
  have key : ∀ (k i : Nat) (z : Option Value), i + k = S.1 → fo (F_comp S l) k i 0 = K_comp S l → Ev Γ 0 0 m_School_hasCompany 0 0 2 [some (.ref a), some (.int (nI l)), some (.int (nI i)), z] [] σ Q := by
    intro k
    induction k with
    | zero =>
      intro i z hi hx
      have hi2 : i = S.1 := by omega
      subst hi2
      refine Ev.iload_n rfl rfl ?_
      refine Ev.aload_n rfl rfl ?_
      refine Ev.getf rfl rfl (by assumption) rfl ?_
      refine Ev.icmp_ge (tgt := 69) rfl (by decide) (fun c7 => ?_) (fun c7 => absurd (nI_le (Nat.le_refl _) (by omega)) c7)
      refine Ev.iconst (v := 0) rfl (by decide) ?_
      refine Ev.iret (ty := .boolean) rfl rfl rfl (Nat.le_refl _) (Nat.le_refl _) ?_
      rw [← hQ]
      exact ⟨by rw [← hx]; rfl, rfl⟩
    | succ k ih =>
      intro i z hi hx
      have hi2 : i < S.1 := by omega
      rw [fo_succ] at hx
      refine Ev.iload_n rfl rfl ?_
      refine Ev.aload_n rfl rfl ?_
      refine Ev.getf rfl rfl (by assumption) rfl ?_
      refine Ev.icmp_ge (tgt := 69) rfl (by decide) (fun c7 => absurd c7 (nI_ge hi2 (by omega))) (fun c7 => ?_)
      refine Ev.iload_n rfl rfl ?_
      refine Ev.iload_n rfl rfl ?_
      refine Ev.icmp_eq (tgt := 39) rfl (by decide) (fun c12 => ?_) (fun c12 => ?_)
      · skip
        refine Ev.iconst (v := 0) rfl (by decide) ?_
        refine Ev.istore_n rfl rfl rfl ?_
        refine Ev.iload_n rfl rfl ?_
        refine Ev.if_eq (tgt := 63) rfl (by decide) (fun c42 => ?_) (fun c42 => absurd c42 (by decide))
        refine Ev.iinc (d := 1) rfl rfl rfl (by decide) rfl ?_
        refine Ev.goto (tgt := 2) rfl (by decide) ?_
        first
        | exact absurd c42 (by decide)
        | exact absurd rfl c42
        | exact (ih (i + 1) _ (by omega) (by rw [← hx, show F_comp S l i 0 = 0 from by simp [F_comp, K_near, *]])).cg (by first | (simp [nI_1]; done) | (simp [nI_1]; rfl))
      · skip
        refine Ev.aload_n rfl rfl ?_
        refine Ev.getf rfl rfl (by assumption) rfl ?_
        refine Ev.iload_n rfl rfl ?_
        refine Ev.ialdN (k := i) rfl (by assumption) rfl ⟨(by omega), by decide⟩ ?_
        refine Ev.aload_n rfl rfl ?_
        refine Ev.getf rfl rfl (by assumption) rfl ?_
        refine Ev.iload_n rfl rfl ?_
        refine Ev.ialdN (k := l) rfl (by assumption) rfl ⟨(by omega), by decide⟩ ?_
        refine Ev.isub rfl ?_
        refine Ev.mabs rfl rfl rfl (Nat.le_of_ble_eq_true rfl) ⟨(Nat.le_refl _), (Nat.le_refl _)⟩ ?_
        rw [abs_eq]
        refine Ev.iconst (v := 1) rfl (by decide) ?_
        refine Ev.icmp_gt (tgt := 39) rfl (by decide) (fun c32 => ?_) (fun c32 => ?_)
        · skip
          refine Ev.iconst (v := 0) rfl (by decide) ?_
          refine Ev.istore_n rfl rfl rfl ?_
          refine Ev.iload_n rfl rfl ?_
          refine Ev.if_eq (tgt := 63) rfl (by decide) (fun c42 => ?_) (fun c42 => absurd c42 (by decide))
          refine Ev.iinc (d := 1) rfl rfl rfl (by decide) rfl ?_
          refine Ev.goto (tgt := 2) rfl (by decide) ?_
          first
          | exact absurd c42 (by decide)
          | exact absurd rfl c42
          | exact (ih (i + 1) _ (by omega) (by rw [← hx, show F_comp S l i 0 = 0 from by simp [F_comp, K_near, *]])).cg (by first | (simp [nI_1]; done) | (simp [nI_1]; rfl))
        · skip
          refine Ev.iconst (v := 1) rfl (by decide) ?_
          refine Ev.goto (tgt := 40) rfl (by decide) ?_
          refine Ev.istore_n rfl rfl rfl ?_
          refine Ev.iload_n rfl rfl ?_
          refine Ev.if_eq (tgt := 63) rfl (by decide) (fun c42 => absurd c42 (by decide)) (fun c42 => ?_)
          refine Ev.aload_n rfl rfl ?_
          refine Ev.getf rfl rfl (by assumption) rfl ?_
          refine Ev.iload_n rfl rfl ?_
          refine Ev.ialdN (k := i) rfl (by assumption) rfl ⟨(by omega), by decide⟩ ?_
          refine Ev.aload_n rfl rfl ?_
          refine Ev.getf rfl rfl (by assumption) rfl ?_
          refine Ev.iload_n rfl rfl ?_
          refine Ev.ialdN (k := l) rfl (by assumption) rfl ⟨(by omega), by decide⟩ ?_
          refine Ev.iand rfl ?_
          refine Ev.if_eq (tgt := 63) rfl (by decide) (fun c58 => ?_) (fun c58 => ?_)
          · skip
            refine Ev.iinc (d := 1) rfl rfl rfl (by decide) rfl ?_
            refine Ev.goto (tgt := 2) rfl (by decide) ?_
            first
            | exact absurd c42 (by decide)
            | exact absurd rfl c42
            | exact (ih (i + 1) _ (by omega) (by rw [← hx, show F_comp S l i 0 = 0 from by simp [F_comp, K_near, *]])).cg (by first | (simp [nI_1]; done) | (simp [nI_1]; rfl))
          · skip
            refine Ev.iconst (v := 1) rfl (by decide) ?_
            refine Ev.iret (ty := .boolean) rfl rfl rfl (Nat.le_refl _) (Nat.le_refl _) ?_
            first
            | exact absurd c42 (by decide)
            | exact absurd rfl c42
            | (rw [← hQ]; exact ⟨by rw [← hx, show F_comp S l i 0 = 1 from by simp_all [F_comp, K_near, gt_le], comp_1], rfl⟩)
  exact key S.1 0 none (by omega) rfl
theorem lonely_some (hX : isX σ x) (hT : isT σ (x + 1) T) (hw : wT T) {u : Int32} {i : Nat} (hg : u = nI i ∧ i < tSn T)  : RetV Γ m_SD_lonely [.ref x, .int u] σ (.int (K_lon (tS T i))) := by
  unfold isX at hX
  obtain ⟨t0, t1, ⟨fs, t2, t3⟩, ⟨fp, t4, t5⟩, t6, t7⟩ := id hT
  unfold RetV
  generalize hQ : (fun (r : Option Value) (σ' : ex_S) => r = some ((.int (K_lon (tS T i))) : Value) ∧ σ' = σ) = Q
  refine Ret.start pm_31 rfl ?_
  obtain ⟨rfl, hi⟩ := hg
  have hw1 := hw.2.1
  have hwS := hw.2.2.2.1 i hi
  have hn16 := hwS.1
  have hn5 := hwS.2.1
  have hSi := t6 i (by omega)
  obtain ⟨h0, h1, h2, h3, h4, h5, h6', h7, h8, h9, h10⟩ := id hSi
  refine Ev.aload_n rfl rfl ?_
  refine Ev.getf rfl rfl (by assumption) rfl ?_
  refine Ev.iload_n rfl rfl ?_
  refine Ev.cV1 rfl rfl (by assumption) rfl rfl (by decide) ⟨(Nat.le_refl _), (Nat.le_refl _)⟩ (schoolAt_some hT hw1 hi) ?_
  refine Ev.astore_n rfl rfl rfl ?_
  refine Ev.aload_n rfl rfl ?_
  refine Ev.ifnonnull (tgt := 15) rfl (by decide) ?_
  refine Ev.iconst (v := 0) rfl (by decide) ?_
  refine Ev.istore_n rfl rfl rfl ?_
  refine Ev.iconst (v := 0) rfl (by decide) ?_
  refine Ev.istore rfl rfl rfl ?_
  refine Ev.cg (L' := [some (.ref x), some (.int (nI i)), some (.ref (x + 1 + 4 + 19 * i)), some (.int 0), some (.int (nI 0))]) ?_ (by first | rfl | simp [nI_0])
  refine lp (fun k z => Ev Γ 0 0 m_SD_lonely 0 0 20 [some (.ref x), some (.int (nI i)), some (.ref (x + 1 + 4 + 19 * i)), some (.int z), some (.int (nI k))] [] σ Q) (F_lon (tS T i)) ((tS T i).1) (fun k z hi hnx => ?_) ((tS T i).1) 0 (0) (by omega) ?_
  · skip
    refine Ev.iload rfl rfl ?_
    refine Ev.aload_n rfl rfl ?_
    refine Ev.getf rfl rfl (by assumption) rfl ?_
    refine Ev.icmp_ge (tgt := 51) rfl (by decide) (fun c26 => absurd c26 (nI_ge hi (by omega))) (fun c26 => ?_)
    refine Ev.aload_n rfl rfl ?_
    refine Ev.iload rfl rfl ?_
    refine Ev.cV1 rfl rfl (by assumption) rfl rfl (by decide) ⟨(Nat.le_refl _), (Nat.le_refl _)⟩ (comp_ok hSi hn16 k hi) ?_
    refine Ev.if_ne (tgt := 45) rfl (by decide) (fun c35 => ?_) (fun c35 => ?_)
    · skip
      refine Ev.iinc (d := 1) rfl rfl rfl (by decide) rfl ?_
      refine Ev.goto (tgt := 20) rfl (by decide) ?_
      exact hnx.fg (by simp [ex_ge, nI_1, fin3, fin2, F_lon, *])
    · skip
      refine Ev.iload_n rfl rfl ?_
      refine Ev.iconst (v := 1) rfl (by decide) ?_
      refine Ev.iload rfl rfl ?_
      refine Ev.ishl rfl ?_
      refine Ev.ior rfl ?_
      refine Ev.istore_n rfl rfl rfl ?_
      refine Ev.iinc (d := 1) rfl rfl rfl (by decide) rfl ?_
      refine Ev.goto (tgt := 20) rfl (by decide) ?_
      exact hnx.fg (by simp [ex_ge, nI_1, fin3, fin2, F_lon, *])
  · skip
    refine Ev.iload rfl rfl ?_
    refine Ev.aload_n rfl rfl ?_
    refine Ev.getf rfl rfl (by assumption) rfl ?_
    refine Ev.icmp_ge (tgt := 51) rfl (by decide) (fun c26 => ?_) (fun c26 => absurd (nI_le (Nat.le_refl _) (by omega)) c26)
    refine Ev.iload_n rfl rfl ?_
    refine Ev.iret (ty := .int) rfl rfl rfl (Nat.le_refl _) (Nat.le_refl _) ?_
    rw [← hQ]
    exact ⟨rfl, rfl⟩
theorem lonely_none (hX : isX σ x) (hT : isT σ (x + 1) T) (hw : wT T) {u : Int32} (hg : u < 0 ∨ nI (tSn T) ≤ u)  : RetV Γ m_SD_lonely [.ref x, .int u] σ (.int (-1)) := by
  unfold isX at hX
  obtain ⟨t0, t1, ⟨fs, t2, t3⟩, ⟨fp, t4, t5⟩, t6, t7⟩ := id hT
  unfold RetV
  generalize hQ : (fun (r : Option Value) (σ' : ex_S) => r = some ((.int (-1)) : Value) ∧ σ' = σ) = Q
  refine Ret.start pm_31 rfl ?_
  refine Ev.aload_n rfl rfl ?_
  refine Ev.getf rfl rfl (by assumption) rfl ?_
  refine Ev.iload_n rfl rfl ?_
  refine Ev.cV1 rfl rfl (by assumption) rfl rfl (by decide) ⟨(Nat.le_refl _), (Nat.le_refl _)⟩ (schoolAt_none hT hg) ?_
  refine Ev.astore_nN rfl rfl rfl ?_
  refine Ev.aload_nN rfl rfl ?_
  refine Ev.ifnonnullN rfl ?_
  refine Ev.iconst (v := (-1)) rfl (by decide) ?_
  refine Ev.iret (ty := .int) rfl rfl rfl (Nat.le_refl _) (Nat.le_refl _) ?_
  rw [← hQ]
  exact ⟨rfl, rfl⟩
theorem m_lonely_none (hM : isM σ y g A) (hT : mT A 0 T) (hw : wT T) {u : Int32} (hg : u < 0 ∨ nI (tSn T) ≤ u)  : RetV Γ m_M_lonely [.ref y, .int u] σ (.int (-1)) := by
  obtain ⟨m0, m1⟩ := id hM
  unfold RetV
  generalize hQ : (fun (r : Option Value) (σ' : ex_S) => r = some ((.int (-1)) : Value) ∧ σ' = σ) = Q
  refine Ret.start pm_259 rfl ?_
  refine Ev.aload_n rfl rfl ?_
  refine Ev.iconst (v := 0) rfl (by decide) ?_
  refine Ev.iload_n rfl rfl ?_
  refine Ev.cV2 rfl rfl (by assumption) rfl rfl (by decide) ⟨(Nat.le_refl _), (Nat.le_refl _)⟩ (m_isOf0_no hM hT hw hg) ?_
  refine Ev.if_ne (tgt := 11) rfl (by decide) (fun c6 => absurd rfl c6) (fun c6 => ?_)
  refine Ev.iconst (v := (-1)) rfl (by decide) ?_
  refine Ev.iret (ty := .int) rfl rfl rfl (Nat.le_refl _) (Nat.le_refl _) ?_
  rw [← hQ]
  exact ⟨rfl, rfl⟩
end
end
