/-! The reference: sit; feed of the class. -/
noncomputable section
theorem T_sit_same (T : Tol) (j k : Nat) : T_sit T j k ((tP T j).2 k 5) = T := by
  obtain ⟨a, b, c, d, e, f, g, h⟩ := T
  unfold T_sit tN tF tQ tSn tPn tB tS tP
  simp only [Prod.mk.injEq, true_and]
  funext j'
  by_cases ej : j' = j
  · subst ej
    rw [if_pos rfl]
    refine Prod.ext rfl ?_
    funext k'
    dsimp only
    by_cases ek : k' = k
    · subst ek
      rw [if_pos rfl]
      funext z
      by_cases ez : z = 5
      · subst ez; rw [if_pos rfl]
      · rw [if_neg ez]
    · rw [if_neg ek]
  · rw [if_neg ej]
section
variable {Γ : ex_G} {σ : ex_S} {x q a p y : Nat} {S : Sch} {T : Tol} {P : Pln} {g A : Nat → Int32}
theorem m_sit_new0 (hM : isM σ y g A) (hT : mT A 0 T) (hw : wT T) {v : Int32} {j : Nat} (hg : v = nI j ∧ j < tPn T) {k : Nat} (hk : k < (tP T j).1) {l : Nat} (hl : l < 16) (hb : ¬ (if K_bit ((tP T j).2 k 5) (nI l) = 0 then (0 : Int32) else 1) = 0) : RetB Γ m_M_sit [.ref y, .int v, .int (nI k), .int (nI l), .int 0] σ (.int (1)) (ex_put σ (y + 1) (.inl (0, 4500, upd A (970 + 40 * j + 1 + 6 * k + 5) ((tP T j).2 k 5 ^^^ (1 : Int32) <<< (nI l &&& 31))))) := by
  obtain ⟨m0, m1⟩ := id hM
  unfold RetB
  generalize hQ : (fun (r : Option Value) (σ' : ex_S) => r = some ((.int (1)) : Value) ∧ σ' = ex_put σ (y + 1) (.inl (0, 4500, upd A (970 + 40 * j + 1 + 6 * k + 5) ((tP T j).2 k 5 ^^^ (1 : Int32) <<< (nI l &&& 31))))) = Q
  refine Ret.start pm_199 rfl ?_
  obtain ⟨rfl, hj⟩ := hg
  have hj3 : j < 3 := by have := hw.2.2.1; omega
  have hwP := hw.2.2.2.2 j hj
  have h6 := hwP.1
  have hP := hT.p hj
  obtain ⟨w, ew, -, hwl, hw31⟩ := (hwP.2 k hk).2.2.2.2.2.nat (by decide)
  have h65 : w < 65536 := by omega
  obtain ⟨-, x0, x1⟩ := xor_bit h65 hl
  have a5 : A (970 + 40 * j + 1 + 6 * k + 5) = nI w := by rw [← ew]; exact hP.2 k hk 5 (by decide)
  have hbc := bit_cases (nI w) (nI l)
  rw [ew] at hb hQ
  have hbit : K_bit (nI w) (nI l) = 1 := by
    rcases hbc with q | q
    · exact absurd hb (by rw [q]; decide)
    · exact q
  obtain ⟨y1, y2, y3⟩ := x1 hbit
  refine Ev.aload_n rfl rfl ?_
  refine Ev.iload_n rfl rfl ?_
  refine Ev.iload_n rfl rfl ?_
  refine Ev.cV2 rfl rfl (by assumption) rfl rfl (by decide) ⟨(Nat.le_refl _), (Nat.le_refl _)⟩ (m_isClass_yes hM hT hw ⟨rfl, hj⟩ hk) ?_
  refine Ev.if_eq (tgt := 19) rfl (by decide) (fun c6 => absurd c6 (by decide)) (fun c6 => ?_)
  refine Ev.iload_n rfl rfl ?_
  refine Ev.iconst (v := 0) rfl (by decide) ?_
  refine Ev.bipush (v := 15) rfl (by decide) ?_
  refine Ev.cS3 rfl rfl rfl (by decide) ⟨(Nat.le_refl _), (Nat.le_refl _)⟩ (m_in_ok _ _ _) ?_
  rw [K_in_y (n := 16) (by decide) (by decide) hl]
  refine Ev.if_ne (tgt := 21) rfl (by decide) (fun c16 => ?_) (fun c16 => absurd c16 (by decide))
  refine Ev.aload_n rfl rfl ?_
  refine Ev.iload_n rfl rfl ?_
  refine Ev.iload_n rfl rfl ?_
  refine Ev.cV2 rfl rfl (by assumption) rfl rfl (by decide) ⟨(Nat.le_refl _), (Nat.le_refl _)⟩ (m_classAt_ok hM k) ?_
  refine Ev.iconst (v := 5) rfl (by decide) ?_
  refine Ev.iadd rfl ?_
  refine Ev.istore rfl rfl rfl ?_
  refine Ev.aload_n rfl rfl ?_
  refine Ev.getf rfl rfl (by assumption) rfl ?_
  refine Ev.iload rfl rfl ?_
  refine Ev.ialdN (k := 970 + 40 * j + 1 + 6 * k + 5) rfl (by assumption) (nI_add _ 5) ⟨(by omega), by decide⟩ ?_
  rw [a5]
  refine Ev.istore rfl rfl rfl ?_
  refine Ev.aload_n rfl rfl ?_
  refine Ev.getf rfl rfl (by assumption) rfl ?_
  refine Ev.iload rfl rfl ?_
  refine Ev.iload rfl rfl ?_
  refine Ev.if_eq (tgt := 60) rfl (by decide) (fun c48 => ?_) (fun c48 => absurd rfl c48)
  refine Ev.iload rfl rfl ?_
  refine Ev.iconst (v := 1) rfl (by decide) ?_
  refine Ev.iload_n rfl rfl ?_
  refine Ev.ishl rfl ?_
  refine Ev.iconst (v := (-1)) rfl (by decide) ?_
  refine Ev.ixor rfl ?_
  refine Ev.iand rfl ?_
  refine Ev.iastN (k := 970 + 40 * j + 1 + 6 * k + 5) rfl (by assumption) (nI_add _ 5) ⟨(by omega), by decide⟩ ?_
  refine Ev.aload_n rfl rfl ?_
  refine Ev.getf rfl rfl (by rw [ex_put_ne (by omega)]; assumption) rfl ?_
  refine Ev.iload rfl rfl ?_
  refine Ev.ialdN (k := 970 + 40 * j + 1 + 6 * k + 5) rfl ex_put_eq (nI_add _ 5) ⟨(by omega), by decide⟩ ?_
  refine Ev.iload rfl rfl ?_
  refine Ev.icmp_eq (tgt := 85) rfl (by decide) (fun c78 => absurd c78 (by rw [pk_us]; exact y3)) (fun c78 => ?_)
  refine Ev.iconst (v := 1) rfl (by decide) ?_
  refine Ev.goto (tgt := 86) rfl (by decide) ?_
  refine Ev.iret (ty := .boolean) rfl rfl rfl (Nat.le_refl _) (Nat.le_refl _) ?_
  rw [← hQ]
  exact ⟨rfl, by rw [y1]⟩
theorem m_sit_new1 (hM : isM σ y g A) (hT : mT A 0 T) (hw : wT T) {v : Int32} {j : Nat} (hg : v = nI j ∧ j < tPn T) {k : Nat} (hk : k < (tP T j).1) {l : Nat} (hl : l < 16) (hb : ¬ (if K_bit ((tP T j).2 k 5) (nI l) = 0 then (0 : Int32) else 1) = 1) : RetB Γ m_M_sit [.ref y, .int v, .int (nI k), .int (nI l), .int 1] σ (.int (1)) (ex_put σ (y + 1) (.inl (0, 4500, upd A (970 + 40 * j + 1 + 6 * k + 5) ((tP T j).2 k 5 ^^^ (1 : Int32) <<< (nI l &&& 31))))) := by
  obtain ⟨m0, m1⟩ := id hM
  unfold RetB
  generalize hQ : (fun (r : Option Value) (σ' : ex_S) => r = some ((.int (1)) : Value) ∧ σ' = ex_put σ (y + 1) (.inl (0, 4500, upd A (970 + 40 * j + 1 + 6 * k + 5) ((tP T j).2 k 5 ^^^ (1 : Int32) <<< (nI l &&& 31))))) = Q
  refine Ret.start pm_199 rfl ?_
  obtain ⟨rfl, hj⟩ := hg
  have hj3 : j < 3 := by have := hw.2.2.1; omega
  have hwP := hw.2.2.2.2 j hj
  have h6 := hwP.1
  have hP := hT.p hj
  obtain ⟨w, ew, -, hwl, hw31⟩ := (hwP.2 k hk).2.2.2.2.2.nat (by decide)
  have h65 : w < 65536 := by omega
  obtain ⟨-, x0, x1⟩ := xor_bit h65 hl
  have a5 : A (970 + 40 * j + 1 + 6 * k + 5) = nI w := by rw [← ew]; exact hP.2 k hk 5 (by decide)
  have hbc := bit_cases (nI w) (nI l)
  rw [ew] at hb hQ
  have hbit : K_bit (nI w) (nI l) = 0 := by
    rcases hbc with q | q
    · exact q
    · exact absurd hb (by rw [q]; decide)
  obtain ⟨y1, y2, y3⟩ := x0 hbit
  refine Ev.aload_n rfl rfl ?_
  refine Ev.iload_n rfl rfl ?_
  refine Ev.iload_n rfl rfl ?_
  refine Ev.cV2 rfl rfl (by assumption) rfl rfl (by decide) ⟨(Nat.le_refl _), (Nat.le_refl _)⟩ (m_isClass_yes hM hT hw ⟨rfl, hj⟩ hk) ?_
  refine Ev.if_eq (tgt := 19) rfl (by decide) (fun c6 => absurd c6 (by decide)) (fun c6 => ?_)
  refine Ev.iload_n rfl rfl ?_
  refine Ev.iconst (v := 0) rfl (by decide) ?_
  refine Ev.bipush (v := 15) rfl (by decide) ?_
  refine Ev.cS3 rfl rfl rfl (by decide) ⟨(Nat.le_refl _), (Nat.le_refl _)⟩ (m_in_ok _ _ _) ?_
  rw [K_in_y (n := 16) (by decide) (by decide) hl]
  refine Ev.if_ne (tgt := 21) rfl (by decide) (fun c16 => ?_) (fun c16 => absurd c16 (by decide))
  refine Ev.aload_n rfl rfl ?_
  refine Ev.iload_n rfl rfl ?_
  refine Ev.iload_n rfl rfl ?_
  refine Ev.cV2 rfl rfl (by assumption) rfl rfl (by decide) ⟨(Nat.le_refl _), (Nat.le_refl _)⟩ (m_classAt_ok hM k) ?_
  refine Ev.iconst (v := 5) rfl (by decide) ?_
  refine Ev.iadd rfl ?_
  refine Ev.istore rfl rfl rfl ?_
  refine Ev.aload_n rfl rfl ?_
  refine Ev.getf rfl rfl (by assumption) rfl ?_
  refine Ev.iload rfl rfl ?_
  refine Ev.ialdN (k := 970 + 40 * j + 1 + 6 * k + 5) rfl (by assumption) (nI_add _ 5) ⟨(by omega), by decide⟩ ?_
  rw [a5]
  refine Ev.istore rfl rfl rfl ?_
  refine Ev.aload_n rfl rfl ?_
  refine Ev.getf rfl rfl (by assumption) rfl ?_
  refine Ev.iload rfl rfl ?_
  refine Ev.iload rfl rfl ?_
  refine Ev.if_eq (tgt := 60) rfl (by decide) (fun c48 => absurd c48 (by decide)) (fun c48 => ?_)
  refine Ev.iload rfl rfl ?_
  refine Ev.iconst (v := 1) rfl (by decide) ?_
  refine Ev.iload_n rfl rfl ?_
  refine Ev.ishl rfl ?_
  refine Ev.ior rfl ?_
  refine Ev.goto (tgt := 68) rfl (by decide) ?_
  refine Ev.iastN (k := 970 + 40 * j + 1 + 6 * k + 5) rfl (by assumption) (nI_add _ 5) ⟨(by omega), by decide⟩ ?_
  refine Ev.aload_n rfl rfl ?_
  refine Ev.getf rfl rfl (by rw [ex_put_ne (by omega)]; assumption) rfl ?_
  refine Ev.iload rfl rfl ?_
  refine Ev.ialdN (k := 970 + 40 * j + 1 + 6 * k + 5) rfl ex_put_eq (nI_add _ 5) ⟨(by omega), by decide⟩ ?_
  refine Ev.iload rfl rfl ?_
  refine Ev.icmp_eq (tgt := 85) rfl (by decide) (fun c78 => absurd c78 (by rw [pk_us]; exact y3)) (fun c78 => ?_)
  refine Ev.iconst (v := 1) rfl (by decide) ?_
  refine Ev.goto (tgt := 86) rfl (by decide) ?_
  refine Ev.iret (ty := .boolean) rfl rfl rfl (Nat.le_refl _) (Nat.le_refl _) ?_
  rw [← hQ]
  exact ⟨rfl, by rw [y1]⟩
theorem m_sit_old0 (hM : isM σ y g A) (hT : mT A 0 T) (hw : wT T) {v : Int32} {j : Nat} (hg : v = nI j ∧ j < tPn T) {k : Nat} (hk : k < (tP T j).1) {l : Nat} (hl : l < 16) (hb :  (if K_bit ((tP T j).2 k 5) (nI l) = 0 then (0 : Int32) else 1) = 0) : RetB Γ m_M_sit [.ref y, .int v, .int (nI k), .int (nI l), .int 0] σ (.int (0)) (ex_put σ (y + 1) (.inl (0, 4500, upd A (970 + 40 * j + 1 + 6 * k + 5) ((tP T j).2 k 5)))) := by
  obtain ⟨m0, m1⟩ := id hM
  unfold RetB
  generalize hQ : (fun (r : Option Value) (σ' : ex_S) => r = some ((.int (0)) : Value) ∧ σ' = ex_put σ (y + 1) (.inl (0, 4500, upd A (970 + 40 * j + 1 + 6 * k + 5) ((tP T j).2 k 5)))) = Q
  refine Ret.start pm_199 rfl ?_
  obtain ⟨rfl, hj⟩ := hg
  have hj3 : j < 3 := by have := hw.2.2.1; omega
  have hwP := hw.2.2.2.2 j hj
  have h6 := hwP.1
  have hP := hT.p hj
  obtain ⟨w, ew, -, hwl, hw31⟩ := (hwP.2 k hk).2.2.2.2.2.nat (by decide)
  have h65 : w < 65536 := by omega
  obtain ⟨-, x0, x1⟩ := xor_bit h65 hl
  have a5 : A (970 + 40 * j + 1 + 6 * k + 5) = nI w := by rw [← ew]; exact hP.2 k hk 5 (by decide)
  have hbc := bit_cases (nI w) (nI l)
  rw [ew] at hb hQ
  have hbit : K_bit (nI w) (nI l) = 0 := by
    rcases hbc with q | q
    · exact q
    · exact absurd hb (by rw [q]; decide)
  obtain ⟨y1, y2, y3⟩ := x0 hbit
  refine Ev.aload_n rfl rfl ?_
  refine Ev.iload_n rfl rfl ?_
  refine Ev.iload_n rfl rfl ?_
  refine Ev.cV2 rfl rfl (by assumption) rfl rfl (by decide) ⟨(Nat.le_refl _), (Nat.le_refl _)⟩ (m_isClass_yes hM hT hw ⟨rfl, hj⟩ hk) ?_
  refine Ev.if_eq (tgt := 19) rfl (by decide) (fun c6 => absurd c6 (by decide)) (fun c6 => ?_)
  refine Ev.iload_n rfl rfl ?_
  refine Ev.iconst (v := 0) rfl (by decide) ?_
  refine Ev.bipush (v := 15) rfl (by decide) ?_
  refine Ev.cS3 rfl rfl rfl (by decide) ⟨(Nat.le_refl _), (Nat.le_refl _)⟩ (m_in_ok _ _ _) ?_
  rw [K_in_y (n := 16) (by decide) (by decide) hl]
  refine Ev.if_ne (tgt := 21) rfl (by decide) (fun c16 => ?_) (fun c16 => absurd c16 (by decide))
  refine Ev.aload_n rfl rfl ?_
  refine Ev.iload_n rfl rfl ?_
  refine Ev.iload_n rfl rfl ?_
  refine Ev.cV2 rfl rfl (by assumption) rfl rfl (by decide) ⟨(Nat.le_refl _), (Nat.le_refl _)⟩ (m_classAt_ok hM k) ?_
  refine Ev.iconst (v := 5) rfl (by decide) ?_
  refine Ev.iadd rfl ?_
  refine Ev.istore rfl rfl rfl ?_
  refine Ev.aload_n rfl rfl ?_
  refine Ev.getf rfl rfl (by assumption) rfl ?_
  refine Ev.iload rfl rfl ?_
  refine Ev.ialdN (k := 970 + 40 * j + 1 + 6 * k + 5) rfl (by assumption) (nI_add _ 5) ⟨(by omega), by decide⟩ ?_
  rw [a5]
  refine Ev.istore rfl rfl rfl ?_
  refine Ev.aload_n rfl rfl ?_
  refine Ev.getf rfl rfl (by assumption) rfl ?_
  refine Ev.iload rfl rfl ?_
  refine Ev.iload rfl rfl ?_
  refine Ev.if_eq (tgt := 60) rfl (by decide) (fun c48 => ?_) (fun c48 => absurd rfl c48)
  refine Ev.iload rfl rfl ?_
  refine Ev.iconst (v := 1) rfl (by decide) ?_
  refine Ev.iload_n rfl rfl ?_
  refine Ev.ishl rfl ?_
  refine Ev.iconst (v := (-1)) rfl (by decide) ?_
  refine Ev.ixor rfl ?_
  refine Ev.iand rfl ?_
  refine Ev.iastN (k := 970 + 40 * j + 1 + 6 * k + 5) rfl (by assumption) (nI_add _ 5) ⟨(by omega), by decide⟩ ?_
  refine Ev.aload_n rfl rfl ?_
  refine Ev.getf rfl rfl (by rw [ex_put_ne (by omega)]; assumption) rfl ?_
  refine Ev.iload rfl rfl ?_
  refine Ev.ialdN (k := 970 + 40 * j + 1 + 6 * k + 5) rfl ex_put_eq (nI_add _ 5) ⟨(by omega), by decide⟩ ?_
  refine Ev.iload rfl rfl ?_
  refine Ev.icmp_eq (tgt := 85) rfl (by decide) (fun c78 => ?_) (fun c78 => absurd (by rw [pk_us]; exact y2) c78)
  refine Ev.iconst (v := 0) rfl (by decide) ?_
  refine Ev.iret (ty := .boolean) rfl rfl rfl (Nat.le_refl _) (Nat.le_refl _) ?_
  rw [← hQ]
  exact ⟨rfl, by rw [y2]⟩
theorem m_sit_old1 (hM : isM σ y g A) (hT : mT A 0 T) (hw : wT T) {v : Int32} {j : Nat} (hg : v = nI j ∧ j < tPn T) {k : Nat} (hk : k < (tP T j).1) {l : Nat} (hl : l < 16) (hb :  (if K_bit ((tP T j).2 k 5) (nI l) = 0 then (0 : Int32) else 1) = 1) : RetB Γ m_M_sit [.ref y, .int v, .int (nI k), .int (nI l), .int 1] σ (.int (0)) (ex_put σ (y + 1) (.inl (0, 4500, upd A (970 + 40 * j + 1 + 6 * k + 5) ((tP T j).2 k 5)))) := by
  obtain ⟨m0, m1⟩ := id hM
  unfold RetB
  generalize hQ : (fun (r : Option Value) (σ' : ex_S) => r = some ((.int (0)) : Value) ∧ σ' = ex_put σ (y + 1) (.inl (0, 4500, upd A (970 + 40 * j + 1 + 6 * k + 5) ((tP T j).2 k 5)))) = Q
  refine Ret.start pm_199 rfl ?_
  obtain ⟨rfl, hj⟩ := hg
  have hj3 : j < 3 := by have := hw.2.2.1; omega
  have hwP := hw.2.2.2.2 j hj
  have h6 := hwP.1
  have hP := hT.p hj
  obtain ⟨w, ew, -, hwl, hw31⟩ := (hwP.2 k hk).2.2.2.2.2.nat (by decide)
  have h65 : w < 65536 := by omega
  obtain ⟨-, x0, x1⟩ := xor_bit h65 hl
  have a5 : A (970 + 40 * j + 1 + 6 * k + 5) = nI w := by rw [← ew]; exact hP.2 k hk 5 (by decide)
  have hbc := bit_cases (nI w) (nI l)
  rw [ew] at hb hQ
  have hbit : K_bit (nI w) (nI l) = 1 := by
    rcases hbc with q | q
    · exact absurd hb (by rw [q]; decide)
    · exact q
  obtain ⟨y1, y2, y3⟩ := x1 hbit
  refine Ev.aload_n rfl rfl ?_
  refine Ev.iload_n rfl rfl ?_
  refine Ev.iload_n rfl rfl ?_
  refine Ev.cV2 rfl rfl (by assumption) rfl rfl (by decide) ⟨(Nat.le_refl _), (Nat.le_refl _)⟩ (m_isClass_yes hM hT hw ⟨rfl, hj⟩ hk) ?_
  refine Ev.if_eq (tgt := 19) rfl (by decide) (fun c6 => absurd c6 (by decide)) (fun c6 => ?_)
  refine Ev.iload_n rfl rfl ?_
  refine Ev.iconst (v := 0) rfl (by decide) ?_
  refine Ev.bipush (v := 15) rfl (by decide) ?_
  refine Ev.cS3 rfl rfl rfl (by decide) ⟨(Nat.le_refl _), (Nat.le_refl _)⟩ (m_in_ok _ _ _) ?_
  rw [K_in_y (n := 16) (by decide) (by decide) hl]
  refine Ev.if_ne (tgt := 21) rfl (by decide) (fun c16 => ?_) (fun c16 => absurd c16 (by decide))
  refine Ev.aload_n rfl rfl ?_
  refine Ev.iload_n rfl rfl ?_
  refine Ev.iload_n rfl rfl ?_
  refine Ev.cV2 rfl rfl (by assumption) rfl rfl (by decide) ⟨(Nat.le_refl _), (Nat.le_refl _)⟩ (m_classAt_ok hM k) ?_
  refine Ev.iconst (v := 5) rfl (by decide) ?_
  refine Ev.iadd rfl ?_
  refine Ev.istore rfl rfl rfl ?_
  refine Ev.aload_n rfl rfl ?_
  refine Ev.getf rfl rfl (by assumption) rfl ?_
  refine Ev.iload rfl rfl ?_
  refine Ev.ialdN (k := 970 + 40 * j + 1 + 6 * k + 5) rfl (by assumption) (nI_add _ 5) ⟨(by omega), by decide⟩ ?_
  rw [a5]
  refine Ev.istore rfl rfl rfl ?_
  refine Ev.aload_n rfl rfl ?_
  refine Ev.getf rfl rfl (by assumption) rfl ?_
  refine Ev.iload rfl rfl ?_
  refine Ev.iload rfl rfl ?_
  refine Ev.if_eq (tgt := 60) rfl (by decide) (fun c48 => absurd c48 (by decide)) (fun c48 => ?_)
  refine Ev.iload rfl rfl ?_
  refine Ev.iconst (v := 1) rfl (by decide) ?_
  refine Ev.iload_n rfl rfl ?_
  refine Ev.ishl rfl ?_
  refine Ev.ior rfl ?_
  refine Ev.goto (tgt := 68) rfl (by decide) ?_
  refine Ev.iastN (k := 970 + 40 * j + 1 + 6 * k + 5) rfl (by assumption) (nI_add _ 5) ⟨(by omega), by decide⟩ ?_
  refine Ev.aload_n rfl rfl ?_
  refine Ev.getf rfl rfl (by rw [ex_put_ne (by omega)]; assumption) rfl ?_
  refine Ev.iload rfl rfl ?_
  refine Ev.ialdN (k := 970 + 40 * j + 1 + 6 * k + 5) rfl ex_put_eq (nI_add _ 5) ⟨(by omega), by decide⟩ ?_
  refine Ev.iload rfl rfl ?_
  refine Ev.icmp_eq (tgt := 85) rfl (by decide) (fun c78 => ?_) (fun c78 => absurd (by rw [pk_us]; exact y2) c78)
  refine Ev.iconst (v := 0) rfl (by decide) ?_
  refine Ev.iret (ty := .boolean) rfl rfl rfl (Nat.le_refl _) (Nat.le_refl _) ?_
  rw [← hQ]
  exact ⟨rfl, by rw [y2]⟩
theorem m_sit_nol (hM : isM σ y g A) (hT : mT A 0 T) (hw : wT T) {v : Int32} {j : Nat} (hg : v = nI j ∧ j < tPn T) {k : Nat} (hk : k < (tP T j).1) {l : Int32} (hl : l < 0 ∨ nI 16 ≤ l) (b : Int32) : RetV Γ m_M_sit [.ref y, .int v, .int (nI k), .int l, .int b] σ (.int (0)) := by
  obtain ⟨m0, m1⟩ := id hM
  unfold RetV
  generalize hQ : (fun (r : Option Value) (σ' : ex_S) => r = some ((.int (0)) : Value) ∧ σ' = σ) = Q
  refine Ret.start pm_199 rfl ?_
  obtain ⟨rfl, hj⟩ := hg
  refine Ev.aload_n rfl rfl ?_
  refine Ev.iload_n rfl rfl ?_
  refine Ev.iload_n rfl rfl ?_
  refine Ev.cV2 rfl rfl (by assumption) rfl rfl (by decide) ⟨(Nat.le_refl _), (Nat.le_refl _)⟩ (m_isClass_yes hM hT hw ⟨rfl, hj⟩ hk) ?_
  refine Ev.if_eq (tgt := 19) rfl (by decide) (fun c6 => absurd c6 (by decide)) (fun c6 => ?_)
  refine Ev.iload_n rfl rfl ?_
  refine Ev.iconst (v := 0) rfl (by decide) ?_
  refine Ev.bipush (v := 15) rfl (by decide) ?_
  refine Ev.cS3 rfl rfl rfl (by decide) ⟨(Nat.le_refl _), (Nat.le_refl _)⟩ (m_in_ok _ _ _) ?_
  rw [K_in_n (n := 16) (by decide) (by decide) hl]
  refine Ev.if_ne (tgt := 21) rfl (by decide) (fun c16 => absurd rfl c16) (fun c16 => ?_)
  refine Ev.iconst (v := 0) rfl (by decide) ?_
  refine Ev.iret (ty := .boolean) rfl rfl rfl (Nat.le_refl _) (Nat.le_refl _) ?_
  rw [← hQ]
  exact ⟨rfl, rfl⟩
theorem m_sit_nok (hM : isM σ y g A) (hT : mT A 0 T) (hw : wT T) {v : Int32} {j : Nat} (hg : v = nI j ∧ j < tPn T) {k : Int32} (hk : k < 0 ∨ nI (tP T j).1 ≤ k) (l b : Int32) : RetV Γ m_M_sit [.ref y, .int v, .int k, .int l, .int b] σ (.int (0)) := by
  obtain ⟨m0, m1⟩ := id hM
  unfold RetV
  generalize hQ : (fun (r : Option Value) (σ' : ex_S) => r = some ((.int (0)) : Value) ∧ σ' = σ) = Q
  refine Ret.start pm_199 rfl ?_
  obtain ⟨rfl, hj⟩ := hg
  refine Ev.aload_n rfl rfl ?_
  refine Ev.iload_n rfl rfl ?_
  refine Ev.iload_n rfl rfl ?_
  refine Ev.cV2 rfl rfl (by assumption) rfl rfl (by decide) ⟨(Nat.le_refl _), (Nat.le_refl _)⟩ (m_isClass_no hM hT hw ⟨rfl, hj⟩ hk) ?_
  refine Ev.if_eq (tgt := 19) rfl (by decide) (fun c6 => ?_) (fun c6 => absurd rfl c6)
  refine Ev.iconst (v := 0) rfl (by decide) ?_
  refine Ev.iret (ty := .boolean) rfl rfl rfl (Nat.le_refl _) (Nat.le_refl _) ?_
  rw [← hQ]
  exact ⟨rfl, rfl⟩
theorem m_isClass_nop (hM : isM σ y g A) (hT : mT A 0 T) (hw : wT T) {v : Int32} (hg : v < 0 ∨ nI (tPn T) ≤ v) (k : Int32) : RetV Γ m_M_isClass [.ref y, .int v, .int k] σ (.int (0)) := by
  obtain ⟨m0, m1⟩ := id hM
  unfold RetV
  generalize hQ : (fun (r : Option Value) (σ' : ex_S) => r = some ((.int (0)) : Value) ∧ σ' = σ) = Q
  refine Ret.start pm_196 rfl ?_
  refine Ev.aload_n rfl rfl ?_
  refine Ev.iconst (v := 1) rfl (by decide) ?_
  refine Ev.iload_n rfl rfl ?_
  refine Ev.cV2 rfl rfl (by assumption) rfl rfl (by decide) ⟨(Nat.le_refl _), (Nat.le_refl _)⟩ (m_isOf1_no hM hT hw hg) ?_
  refine Ev.if_eq (tgt := 33) rfl (by decide) (fun c6 => ?_) (fun c6 => absurd rfl c6)
  refine Ev.iconst (v := 0) rfl (by decide) ?_
  refine Ev.iret (ty := .boolean) rfl rfl rfl (Nat.le_refl _) (Nat.le_refl _) ?_
  rw [← hQ]
  exact ⟨rfl, rfl⟩
theorem m_sit_nop (hM : isM σ y g A) (hT : mT A 0 T) (hw : wT T) {v : Int32} (hg : v < 0 ∨ nI (tPn T) ≤ v) (k l b : Int32) : RetV Γ m_M_sit [.ref y, .int v, .int k, .int l, .int b] σ (.int (0)) := by
  obtain ⟨m0, m1⟩ := id hM
  unfold RetV
  generalize hQ : (fun (r : Option Value) (σ' : ex_S) => r = some ((.int (0)) : Value) ∧ σ' = σ) = Q
  refine Ret.start pm_199 rfl ?_
  refine Ev.aload_n rfl rfl ?_
  refine Ev.iload_n rfl rfl ?_
  refine Ev.iload_n rfl rfl ?_
  refine Ev.cV2 rfl rfl (by assumption) rfl rfl (by decide) ⟨(Nat.le_refl _), (Nat.le_refl _)⟩ (m_isClass_nop hM hT hw hg k) ?_
  refine Ev.if_eq (tgt := 19) rfl (by decide) (fun c6 => ?_) (fun c6 => absurd rfl c6)
  refine Ev.iconst (v := 0) rfl (by decide) ?_
  refine Ev.iret (ty := .boolean) rfl rfl rfl (Nat.le_refl _) (Nat.le_refl _) ?_
  rw [← hQ]
  exact ⟨rfl, rfl⟩
end
end
