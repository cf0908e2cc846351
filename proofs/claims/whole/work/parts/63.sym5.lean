/-! The reference, printed by sym.py: the tried school. -/
noncomputable section
def isTr (τ : ex_S) (y : Nat) (A : Nat → Int32) (S : Sch) (f : Nat → Int32) : Prop := ∃ A1, τ.2 (y + 1) = some (.inl (0, 4500, A1)) ∧ (∀ q, q < 4360 → A1 q = A q) ∧ mS A1 4360 (S_st S f)
theorem tr_carry {σ τ : ex_S} {y lo hi : Nat} {A : Nat → Int32} {S : Sch} {f : Nat → Int32} (f1 : frm σ τ lo hi) (hy : y + 1 < lo ∨ hi ≤ y + 1) (h : isTr σ y A S f) : isTr τ y A S f := by
  obtain ⟨A1, h1, h2, h3⟩ := h
  exact ⟨A1, frm.cell f1 h1 hy, h2, h3⟩
theorem tr_upd {τ : ex_S} {y l : Nat} {A A1 : Nat → Int32} {S : Sch} {f : Nat → Int32} {v : Int32} (hA : ∀ q, q < 4360 → A1 q = A q) (hS : mS A1 4360 (S_st S f)) (hn : S.1 ≤ 16) (hn5 : S.2.1 ≤ 5) (hl : l < S.1) (q : τ.2 (y + 1) = some (.inl (0, 4500, upd A1 (4360 + 13 + l) v))) : isTr τ y A S (upd f l v) := by
  refine ⟨_, q, fun r hr => by rw [pk_un (by omega)]; exact hA r hr, ?_⟩
  obtain ⟨a1, a2, a3, a4, a5, a6⟩ := hS
  refine ⟨by rw [pk_un (by omega)]; exact a1, by rw [pk_un (by omega)]; exact a2, fun j hj => by rw [pk_un (by omega)]; exact a3 j hj, fun i hi => ?_, fun i hi => ?_, fun d hd => ?_⟩
  · have hi : i < S.1 := hi
    obtain ⟨b1, b2, b3, b4, b5⟩ := a4 i hi
    refine ⟨?_, by rw [pk_un (by omega)]; exact b2, by rw [pk_un (by omega)]; exact b3, by rw [pk_un (by omega)]; exact b4, by rw [pk_un (by omega)]; exact b5⟩
    show upd A1 (4360 + 13 + l) v (4360 + 13 + i) = upd f l v i
    by_cases e : i = l
    · subst e
      rw [pk_us, pk_us]
    · rw [pk_un (by omega), pk_un e]
      exact b1
  · have hi : i < S.2.1 := hi
    obtain ⟨b1, b2⟩ := a5 i hi
    exact ⟨by rw [pk_un (by omega)]; exact b1, by rw [pk_un (by omega)]; exact b2⟩
  · obtain ⟨b1, b2⟩ := a6 d hd
    exact ⟨by rw [pk_un (by omega)]; exact b1, by rw [pk_un (by omega)]; exact b2⟩
section
variable {Γ : ex_G} {σ : ex_S} {x q a p y : Nat} {S : Sch} {T : Tol} {P : Pln} {g A : Nat → Int32}
def F_m_copies_2 (s t : Nat) (A : Nat → Int32) : Nat → (Nat → Int32) → (Nat → Int32) := fun k z => (upd z (t + k) (z (s + k)))
def K_m_copies (s t : Nat) (A : Nat → Int32) : (Nat → Int32) := (fo (F_m_copies_2 s t A) (120) 0 A)
theorem m_copies_ok {s t : Nat} (hM : isM σ y g A) (hs : s + 120 ≤ 4500) (ht : t + 120 ≤ 4500) : RetX Γ m_M_copies [(.ref y), (.int (nI s)), (.int (nI t))] σ (y + 1) (y + 1 + 1) none (fun τ => τ.2 (y + 1) = some (.inl (0, 4500, (K_m_copies s t A)))) := by
  obtain ⟨m00, m1⟩ := id hM
  unfold RetX
  generalize hQ : (fun (r : Option Value) (τ : ex_S) => r = none ∧ frm σ τ (y + 1) (y + 1 + 1) ∧ (fun τ : ex_S => τ.2 (y + 1) = some (.inl (0, 4500, (K_m_copies s t A)))) τ) = Q
  refine Ret.start pm_246 rfl ?_
  have fr : frm σ σ (y + 1) (y + 1 + 1) := frm.rf
  have m0 := frm.cell fr m00 (by omega)
  refine Ev.iconst (v := 0) rfl (by decide) ?_
  refine Ev.istore_n rfl rfl rfl ?_
  refine Ev.fg (L := [some (.ref y), some (.int (nI s)), some (.int (nI t)), some (.int (nI 0))]) ?_ (gs rfl (gs rfl (gs rfl (gs (congrArg Value.int (rfl : (0 : Int32) = nI 0).symm) gz))))
  refine lp (fun (k : Nat) (z : (Nat → Int32)) => ∀ τ' : ex_S, frm σ τ' (y + 1) (y + 1 + 1) → τ'.2 (y + 1) = some (.inl (0, 4500, z)) → Ev Γ 0 0 m_M_copies 0 0 2 [some (.ref y), some (.int (nI s)), some (.int (nI t)), some (.int (nI k))] [] τ' Q) (F_m_copies_2 s t A) (120) (fun k z hk hx => ?_) (120) 0 A (by omega) ?_ σ fr m1
  · skip
    intro τ' fr m1
    have m0 := frm.cell fr m00 (by omega)
    refine Ev.iload_n rfl rfl ?_
    refine Ev.bipush (v := 120) rfl (by decide) ?_
    refine Ev.jge (tgt := 30) rfl (by decide) (fun c5 => absurd (nI_lt hk (by omega)) c5) (fun c5 => ?_)
    refine Ev.aload_n rfl rfl ?_
    refine Ev.getf rfl rfl m0 rfl ?_
    refine Ev.iload_n rfl rfl ?_
    refine Ev.iload_n rfl rfl ?_
    refine Ev.iadd rfl ?_
    refine Ev.aload_n rfl rfl ?_
    refine Ev.getf rfl rfl m0 rfl ?_
    refine Ev.iload_n rfl rfl ?_
    refine Ev.iload_n rfl rfl ?_
    refine Ev.iadd rfl ?_
    refine Ev.ialdN (k := s + k) rfl m1 (nq_add (a := s) (b := k) rfl rfl) ⟨(by omega), by decide⟩ ?_
    refine Ev.iastE (k := t + k) rfl m1 (nq_add (a := t) (b := k) rfl rfl) ⟨(by omega), by decide⟩ (fun τ1 f1 m1 => ?_)
    have fr := fr.step f1 (by omega) (by omega)
    have m0 := frm.cell fr m00 (by omega)
    refine Ev.iinc (d := 1) rfl rfl rfl (by decide) rfl ?_
    refine Ev.goto (tgt := 2) rfl (by decide) ?_
    have hF : (F_m_copies_2 s t A) k z = (upd z (t + k) (z (s + k))) := by rfl
    rw [hF] at hx
    exact (hx τ1 fr m1).fg (gs rfl (gs rfl (gs rfl (gs (congrArg Value.int (show nI (k + 1) = (nI k) + (1 : Int32) from (nq_to (a := k + 1) (nq_add (a := k) (b := 1) rfl (rfl : (1 : Int32) = nI 1)) (by omega)).symm)) gz))))
  · skip
    intro τ' fr m1
    have m0 := frm.cell fr m00 (by omega)
    refine Ev.iload_n rfl rfl ?_
    refine Ev.bipush (v := 120) rfl (by decide) ?_
    refine Ev.jge (tgt := 30) rfl (by decide) (fun c5 => ?_) (fun c5 => absurd c5 (nI_nlt (Nat.le_refl _) (by omega)))
    refine Ev.ret rfl rfl (Nat.le_refl _) (Nat.le_refl _) ?_
    have hK : (K_m_copies s t A) = (fo (F_m_copies_2 s t A) (120) 0 A) := by rfl
    rw [← hQ]
    dsimp only
    rw [hK]
    exact ⟨rfl, fr, m1⟩
theorem copies_at {s t : Nat} {A : Nat → Int32} (h : s + 120 ≤ t ∨ t + 120 ≤ s) (q : Nat) : K_m_copies s t A q = if t ≤ q ∧ q < t + 120 then A (s + (q - t)) else A q := by
  unfold K_m_copies
  have key := fo_inv (F := F_m_copies_2 s t A) (fun i z => ∀ q, z q = if t ≤ q ∧ q < t + i then A (s + (q - t)) else A q) 120 0 A (fun q => by rw [if_neg (by omega)]) (fun j z _ hj hz q => by
    unfold F_m_copies_2
    by_cases e : q = t + j
    · subst e
      rw [pk_us, hz, if_neg (by omega), if_pos (by omega), show t + j - t = j by omega]
    · rw [pk_un e, hz]
      by_cases e2 : t ≤ q ∧ q < t + j
      · rw [if_pos e2, if_pos (by omega)]
      · rw [if_neg e2, if_neg (by omega)])
  simpa using key q
theorem cp_tr {τ : ex_S} {y s : Nat} {A : Nat → Int32} {S : Sch} (hS : mS A s S) (hw : wS S) (hs : s + 120 ≤ 4360) (q : τ.2 (y + 1) = some (.inl (0, 4500, K_m_copies s 4360 A))) : isTr τ y A S (S.2.2 0) := by
  refine ⟨_, q, fun r hr => by rw [copies_at (by omega), if_neg (by omega)], ?_⟩
  rw [S_st_self]
  exact hS.mv hw.1 hw.2.1 (fun k hk => by rw [copies_at (by omega), if_pos (by omega), show 4360 + k - 4360 = k by omega])
def F_m_year_18 (S : Sch) (P : Pln) (f v_row : Nat → Int32) (k : Nat) (z : (Nat → Int32)) : Nat → Int32 → Int32 := fun k' z' => if (((P.2 k' 5) >>> ((nI k) &&& 31)) &&& (1 : Int32)) = (1 : Int32) then (z' + (K_by (S_st S f) (P.2 k') (P.2 k' 5) k)) else (z' + (0 : Int32))
def F_m_year_2 (S : Sch) (P : Pln) (f v_row : Nat → Int32) : Nat → (Nat → Int32) → (Nat → Int32) := fun k z => if (fo (F_m_year_18 S P f v_row k z) (P.1) 0 (0 : Int32)) < (S.2.2 9 8) then (upd z k (0 : Int32)) else (if ((S_st S f).2.2 0 k) < (11 : Int32) then (upd z k (1 : Int32)) else (upd z k (0 : Int32)))
def F_m_year_122 (S : Sch) (P : Pln) (f v_row : Nat → Int32) : Nat → (Nat → Int32) → (Nat → Int32) := fun k z => (upd z k ((z k) + ((fo (F_m_year_2 S P f v_row) (S.1) 0 v_row) k)))
def K_m_year (S : Sch) (P : Pln) (f v_row : Nat → Int32) : (Nat → Int32) × (Nat → Int32) := ((fo (F_m_year_122 S P f v_row) (S.1) 0 f), (fo (F_m_year_2 S P f v_row) (S.1) 0 v_row))
theorem m_year_ok {S : Sch} {f v_row : Nat → Int32} (m00 : σ.2 y = some (.inr (.inr (10, mo y g)))) (hTr : isTr σ y A S f) (m_row : σ.2 (y + 9) = some (.inl (0, 16, v_row))) (hwf : wS (S_st S f)) (hP0 : mP A (970 + 40 * p) P) (hp : p < 3) (hwP : wP P) (hgo : goP S P) (hn16 : S.1 ≤ 16) (hn5 : S.2.1 ≤ 5) : RetX Γ m_M_year [(.ref y), (.int (4360 : Int32)), (.int (nI p))] σ (y + 1) (y + 17) none (fun τ => isTr τ y A S ((K_m_year S P f v_row).1) ∧ τ.2 (y + 9) = some (.inl (0, 16, (K_m_year S P f v_row).2)) ∧ (∀ q, q ≠ y + 1 → q ≠ y + 9 → τ.2 q = σ.2 q)) := by
  have h6 := hwP.1
  unfold RetX
  generalize hQ : (fun (r : Option Value) (τ : ex_S) => r = none ∧ frm σ τ (y + 1) (y + 17) ∧ (fun τ : ex_S => isTr τ y A S ((K_m_year S P f v_row).1) ∧ τ.2 (y + 9) = some (.inl (0, 16, (K_m_year S P f v_row).2)) ∧ (∀ q, q ≠ y + 1 → q ≠ y + 9 → τ.2 q = σ.2 q)) τ) = Q
  refine Ret.start pm_245 rfl ?_
  have fr : frm σ σ (y + 1) (y + 17) := frm.rf
  have kp : (∀ q, q ≠ y + 1 → q ≠ y + 9 → σ.2 q = σ.2 q) := fun _ _ _ => rfl
  have m0 := frm.cell fr m00 (by omega)
  obtain ⟨A1, m1, hA1, hS1⟩ := id hTr
  have hM : isM _ y _ A1 := ⟨m0, m1⟩
  have hP : mP A1 (970 + 40 * p) P := hP0.mv h6 (fun k hk => hA1 _ (by omega))
  refine Ev.iconst (v := 0) rfl (by decide) ?_
  refine Ev.istore_n rfl rfl rfl ?_
  refine Ev.fg (L := [some (.ref y), some (.int (4360 : Int32)), some (.int (nI p)), some (.int (nI 0)), none, none]) ?_ (gs rfl (gs rfl (gs rfl (gs (congrArg Value.int (rfl : (0 : Int32) = nI 0).symm) (gn (gn gz))))))
  refine lp (fun (k : Nat) (z : (Nat → Int32)) => ∀ τ' : ex_S, frm σ τ' (y + 1) (y + 17) → isTr τ' y A S f → τ'.2 (y + 9) = some (.inl (0, 16, z)) → (∀ q, q ≠ y + 1 → q ≠ y + 9 → τ'.2 q = σ.2 q) → Ev Γ 0 0 m_M_year 0 0 2 [some (.ref y), some (.int (4360 : Int32)), some (.int (nI p)), some (.int (nI k)), none, none] [] τ' Q) (F_m_year_2 S P f v_row) (S.1) (fun k z hk hx => ?_) (S.1) 0 v_row (by omega) ?_ σ fr hTr m_row kp
  · skip
    intro τ' fr hTr m_row kp
    have m0 := frm.cell fr m00 (by omega)
    obtain ⟨A1, m1, hA1, hS1⟩ := id hTr
    have hM : isM _ y _ A1 := ⟨m0, m1⟩
    have hP : mP A1 (970 + 40 * p) P := hP0.mv h6 (fun k hk => hA1 _ (by omega))
    refine Ev.iload_n rfl rfl ?_
    refine Ev.aload_n rfl rfl ?_
    refine Ev.getf rfl rfl m0 rfl ?_
    refine Ev.iload_n rfl rfl ?_
    refine Ev.ialdN (k := 4360) rfl m1 (nq_to (a := 4360) (rfl : (4360 : Int32) = nI 4360) (by omega)) ⟨(by omega), by decide⟩ ?_
    rw [show A1 (4360) = nI S.1 from hS1.1]
    refine Ev.jge (tgt := 120) rfl (by decide) (fun c9 => absurd (nI_lt hk (by omega)) c9) (fun c9 => ?_)
    refine Ev.iconst (v := 0) rfl (by decide) ?_
    refine Ev.istore rfl rfl rfl ?_
    refine Ev.iconst (v := 0) rfl (by decide) ?_
    refine Ev.istore rfl rfl rfl ?_
    refine Ev.fg (L := [some (.ref y), some (.int (4360 : Int32)), some (.int (nI p)), some (.int (nI k)), some (.int (0 : Int32)), some (.int (nI 0))]) ?_ (gs rfl (gs rfl (gs rfl (gs rfl (gs rfl (gs (congrArg Value.int (rfl : (0 : Int32) = nI 0).symm) gz))))))
    refine lp (fun (k' : Nat) (z' : Int32) => Ev Γ 0 0 m_M_year 0 0 18 [some (.ref y), some (.int (4360 : Int32)), some (.int (nI p)), some (.int (nI k)), some (.int z'), some (.int (nI k'))] [] τ' Q) (F_m_year_18 S P f v_row k z) (P.1) (fun k' z' hk' hx' => ?_) (P.1) 0 (0 : Int32) (by omega) ?_
    · skip
      refine Ev.iload rfl rfl ?_
      refine Ev.aload_n rfl rfl ?_
      refine Ev.iload_n rfl rfl ?_
      refine Ev.cV1 rfl rfl m0 rfl rfl (by decide) ⟨(Nat.le_refl _), (Nat.le_refl _)⟩ (m_classes_ok hM hP hp h6) ?_
      refine Ev.jge (tgt := 78) rfl (by decide) (fun c25 => absurd (nI_lt hk' (by omega)) c25) (fun c25 => ?_)
      refine Ev.iload rfl rfl ?_
      refine Ev.aload_n rfl rfl ?_
      refine Ev.iload_n rfl rfl ?_
      refine Ev.iload rfl rfl ?_
      refine Ev.cV2 rfl rfl m0 rfl rfl (by decide) ⟨(Nat.le_refl _), (Nat.le_refl _)⟩ (m_sitsIn_ok hM hP hp h6 k' (by omega)) ?_
      refine Ev.iload_n rfl rfl ?_
      refine Ev.ishr rfl ?_
      refine Ev.iconst (v := 1) rfl (by decide) ?_
      refine Ev.iand rfl ?_
      refine Ev.iconst (v := 1) rfl (by decide) ?_
      refine Ev.jne (tgt := 68) rfl (by decide) (fun c42 => ?_) (fun c42 => ?_)
      · skip
        refine Ev.iconst (v := 0) rfl (by decide) ?_
        refine Ev.iadd rfl ?_
        refine Ev.istore rfl rfl rfl ?_
        refine Ev.iinc (d := 1) rfl rfl rfl (by decide) rfl ?_
        refine Ev.goto (tgt := 18) rfl (by decide) ?_
        have hF : (F_m_year_18 S P f v_row k z) k' z' = z' + (0 : Int32) := by
          unfold F_m_year_18
          rw [if_neg c42]
        rw [hF] at hx'
        exact hx'.fg (gs rfl (gs rfl (gs rfl (gs rfl (gs rfl (gs (congrArg Value.int (show nI (k' + 1) = (nI k') + (1 : Int32) from (nq_to (a := k' + 1) (nq_add (a := k') (b := 1) rfl (rfl : (1 : Int32) = nI 1)) (by omega)).symm)) gz))))))
      · skip
        refine Ev.aload_n rfl rfl ?_
        refine Ev.iload_n rfl rfl ?_
        refine Ev.aload_n rfl rfl ?_
        refine Ev.iload_n rfl rfl ?_
        refine Ev.iload rfl rfl ?_
        refine Ev.cV2 rfl rfl m0 rfl rfl (by decide) ⟨(Nat.le_refl _), (Nat.le_refl _)⟩ (m_classAt_ok hM k') ?_
        refine Ev.iload_n rfl rfl ?_
        refine Ev.aload_n rfl rfl ?_
        refine Ev.iload_n rfl rfl ?_
        refine Ev.iload rfl rfl ?_
        refine Ev.cV2 rfl rfl m0 rfl rfl (by decide) ⟨(Nat.le_refl _), (Nat.le_refl _)⟩ (m_sitsIn_ok hM hP hp h6 k' (by omega)) ?_
        refine Ev.cV4 rfl rfl m0 rfl rfl (by decide) ⟨(Nat.le_refl _), (Nat.le_refl _)⟩ (m_by_W (s := 4360) hM hS1 (by omega) hwf (hP.2 k' (by omega)) (by omega) (hwP.2 k' (by omega)) (hgo k' (by omega)).1 (by show _ < S.1; omega) (hgo k' (by omega)).2) ?_
        refine Ev.goto (tgt := 69) rfl (by decide) ?_
        refine Ev.iadd rfl ?_
        refine Ev.istore rfl rfl rfl ?_
        refine Ev.iinc (d := 1) rfl rfl rfl (by decide) rfl ?_
        refine Ev.goto (tgt := 18) rfl (by decide) ?_
        have hF : (F_m_year_18 S P f v_row k z) k' z' = z' + (K_by (S_st S f) (P.2 k') (P.2 k' 5) k) := by
          unfold F_m_year_18
          rw [if_pos c42]
        rw [hF] at hx'
        exact hx'.fg (gs rfl (gs rfl (gs rfl (gs rfl (gs rfl (gs (congrArg Value.int (show nI (k' + 1) = (nI k') + (1 : Int32) from (nq_to (a := k' + 1) (nq_add (a := k') (b := 1) rfl (rfl : (1 : Int32) = nI 1)) (by omega)).symm)) gz))))))
    · skip
      refine Ev.iload rfl rfl ?_
      refine Ev.aload_n rfl rfl ?_
      refine Ev.iload_n rfl rfl ?_
      refine Ev.cV1 rfl rfl m0 rfl rfl (by decide) ⟨(Nat.le_refl _), (Nat.le_refl _)⟩ (m_classes_ok hM hP hp h6) ?_
      refine Ev.jge (tgt := 78) rfl (by decide) (fun c25 => ?_) (fun c25 => absurd c25 (nI_nlt (Nat.le_refl _) (by omega)))
      refine Ev.aload_n rfl rfl ?_
      refine Ev.getf rfl rfl m0 rfl ?_
      refine Ev.iload_n rfl rfl ?_
      refine Ev.iload rfl rfl ?_
      refine Ev.aload_n rfl rfl ?_
      refine Ev.getf rfl rfl m0 rfl ?_
      refine Ev.iload_n rfl rfl ?_
      refine Ev.bipush (v := 10) rfl (by decide) ?_
      refine Ev.iadd rfl ?_
      refine Ev.ialdN (k := 4360 + 10) rfl m1 (nq_to (a := 4360 + 10) (nq_add (a := 4360) (b := 10) (rfl : (4360 : Int32) = nI 4360) (rfl : (10 : Int32) = nI 10)) (by omega)) ⟨(by omega), by decide⟩ ?_
      rw [show A1 (4360 + 10) = S.2.2 9 8 from hS1.2.2.1 8 (by decide)]
      refine Ev.jlt (tgt := 112) rfl (by decide) (fun c94 => ?_) (fun c94 => ?_)
      · skip
        refine Ev.iconst (v := 0) rfl (by decide) ?_
        refine Ev.iastE (k := k) rfl m_row rfl ⟨(by omega), by decide⟩ (fun τ1 f1 m_row => ?_)
        have hTr := tr_carry f1 (by omega) hTr
        have kp : (∀ q, q ≠ y + 1 → q ≠ y + 9 → τ1.2 q = σ.2 q) := fun q n0 n1 => (f1.2 q (by omega)).trans (kp q n0 n1)
        have fr := fr.step f1 (by omega) (by omega)
        have m0 := frm.cell fr m00 (by omega)
        obtain ⟨A1, m1, hA1, hS1⟩ := id hTr
        have hM : isM _ y _ A1 := ⟨m0, m1⟩
        have hP : mP A1 (970 + 40 * p) P := hP0.mv h6 (fun k hk => hA1 _ (by omega))
        refine Ev.iinc (d := 1) rfl rfl rfl (by decide) rfl ?_
        refine Ev.goto (tgt := 2) rfl (by decide) ?_
        have hF : (F_m_year_2 S P f v_row) k z = (upd z k (0 : Int32)) := by
          unfold F_m_year_2
          rw [if_pos c94]
        rw [hF] at hx
        exact (hx τ1 fr hTr m_row kp).fg (gs rfl (gs rfl (gs rfl (gs (congrArg Value.int (show nI (k + 1) = (nI k) + (1 : Int32) from (nq_to (a := k + 1) (nq_add (a := k) (b := 1) rfl (rfl : (1 : Int32) = nI 1)) (by omega)).symm)) (gn (gn gz))))))
      · skip
        refine Ev.aload_n rfl rfl ?_
        refine Ev.iload_n rfl rfl ?_
        refine Ev.iload_n rfl rfl ?_
        refine Ev.cV2 rfl rfl m0 rfl rfl (by decide) ⟨(Nat.le_refl _), (Nat.le_refl _)⟩ (m_step_ok (s := 4360) hM hS1 (by omega) hwf k (by show _ < S.1; omega)) ?_
        refine Ev.bipush (v := 11) rfl (by decide) ?_
        refine Ev.jge (tgt := 112) rfl (by decide) (fun c105 => ?_) (fun c105 => ?_)
        · skip
          refine Ev.iconst (v := 0) rfl (by decide) ?_
          refine Ev.iastE (k := k) rfl m_row rfl ⟨(by omega), by decide⟩ (fun τ2 f1 m_row => ?_)
          have hTr := tr_carry f1 (by omega) hTr
          have kp : (∀ q, q ≠ y + 1 → q ≠ y + 9 → τ2.2 q = σ.2 q) := fun q n0 n1 => (f1.2 q (by omega)).trans (kp q n0 n1)
          have fr := fr.step f1 (by omega) (by omega)
          have m0 := frm.cell fr m00 (by omega)
          obtain ⟨A1, m1, hA1, hS1⟩ := id hTr
          have hM : isM _ y _ A1 := ⟨m0, m1⟩
          have hP : mP A1 (970 + 40 * p) P := hP0.mv h6 (fun k hk => hA1 _ (by omega))
          refine Ev.iinc (d := 1) rfl rfl rfl (by decide) rfl ?_
          refine Ev.goto (tgt := 2) rfl (by decide) ?_
          have hF : (F_m_year_2 S P f v_row) k z = (upd z k (0 : Int32)) := by
            unfold F_m_year_2
            rw [if_neg c94]
            rw [if_neg c105]
          rw [hF] at hx
          exact (hx τ2 fr hTr m_row kp).fg (gs rfl (gs rfl (gs rfl (gs (congrArg Value.int (show nI (k + 1) = (nI k) + (1 : Int32) from (nq_to (a := k + 1) (nq_add (a := k) (b := 1) rfl (rfl : (1 : Int32) = nI 1)) (by omega)).symm)) (gn (gn gz))))))
        · skip
          refine Ev.iconst (v := 1) rfl (by decide) ?_
          refine Ev.goto (tgt := 113) rfl (by decide) ?_
          refine Ev.iastE (k := k) rfl m_row rfl ⟨(by omega), by decide⟩ (fun τ3 f1 m_row => ?_)
          have hTr := tr_carry f1 (by omega) hTr
          have kp : (∀ q, q ≠ y + 1 → q ≠ y + 9 → τ3.2 q = σ.2 q) := fun q n0 n1 => (f1.2 q (by omega)).trans (kp q n0 n1)
          have fr := fr.step f1 (by omega) (by omega)
          have m0 := frm.cell fr m00 (by omega)
          obtain ⟨A1, m1, hA1, hS1⟩ := id hTr
          have hM : isM _ y _ A1 := ⟨m0, m1⟩
          have hP : mP A1 (970 + 40 * p) P := hP0.mv h6 (fun k hk => hA1 _ (by omega))
          refine Ev.iinc (d := 1) rfl rfl rfl (by decide) rfl ?_
          refine Ev.goto (tgt := 2) rfl (by decide) ?_
          have hF : (F_m_year_2 S P f v_row) k z = (upd z k (1 : Int32)) := by
            unfold F_m_year_2
            rw [if_neg c94]
            rw [if_pos c105]
          rw [hF] at hx
          exact (hx τ3 fr hTr m_row kp).fg (gs rfl (gs rfl (gs rfl (gs (congrArg Value.int (show nI (k + 1) = (nI k) + (1 : Int32) from (nq_to (a := k + 1) (nq_add (a := k) (b := 1) rfl (rfl : (1 : Int32) = nI 1)) (by omega)).symm)) (gn (gn gz))))))
  · skip
    intro τ' fr hTr m_row kp
    have m0 := frm.cell fr m00 (by omega)
    obtain ⟨A1, m1, hA1, hS1⟩ := id hTr
    have hM : isM _ y _ A1 := ⟨m0, m1⟩
    have hP : mP A1 (970 + 40 * p) P := hP0.mv h6 (fun k hk => hA1 _ (by omega))
    refine Ev.iload_n rfl rfl ?_
    refine Ev.aload_n rfl rfl ?_
    refine Ev.getf rfl rfl m0 rfl ?_
    refine Ev.iload_n rfl rfl ?_
    refine Ev.ialdN (k := 4360) rfl m1 (nq_to (a := 4360) (rfl : (4360 : Int32) = nI 4360) (by omega)) ⟨(by omega), by decide⟩ ?_
    rw [show A1 (4360) = nI S.1 from hS1.1]
    refine Ev.jge (tgt := 120) rfl (by decide) (fun c9 => ?_) (fun c9 => absurd c9 (nI_nlt (Nat.le_refl _) (by omega)))
    refine Ev.iconst (v := 0) rfl (by decide) ?_
    refine Ev.istore_n rfl rfl rfl ?_
    refine Ev.fg (L := [some (.ref y), some (.int (4360 : Int32)), none, some (.int (nI 0)), none, none]) ?_ (gs rfl (gs rfl (gn (gs (congrArg Value.int (rfl : (0 : Int32) = nI 0).symm) (gn (gn gz))))))
    refine lp (fun (k : Nat) (z : (Nat → Int32)) => ∀ τ' : ex_S, frm σ τ' (y + 1) (y + 17) → isTr τ' y A S z → τ'.2 (y + 9) = some (.inl (0, 16, (fo (F_m_year_2 S P f v_row) (S.1) 0 v_row))) → (∀ q, q ≠ y + 1 → q ≠ y + 9 → τ'.2 q = σ.2 q) → Ev Γ 0 0 m_M_year 0 0 122 [some (.ref y), some (.int (4360 : Int32)), none, some (.int (nI k)), none, none] [] τ' Q) (F_m_year_122 S P f v_row) (S.1) (fun k z hk hx => ?_) (S.1) 0 f (by omega) ?_ τ' fr hTr m_row kp
    · skip
      intro τ' fr hTr m_row kp
      have m0 := frm.cell fr m00 (by omega)
      obtain ⟨A1, m1, hA1, hS1⟩ := id hTr
      have hM : isM _ y _ A1 := ⟨m0, m1⟩
      have hP : mP A1 (970 + 40 * p) P := hP0.mv h6 (fun k hk => hA1 _ (by omega))
      refine Ev.iload_n rfl rfl ?_
      refine Ev.aload_n rfl rfl ?_
      refine Ev.getf rfl rfl m0 rfl ?_
      refine Ev.iload_n rfl rfl ?_
      refine Ev.ialdN (k := 4360) rfl m1 (nq_to (a := 4360) (rfl : (4360 : Int32) = nI 4360) (by omega)) ⟨(by omega), by decide⟩ ?_
      rw [show A1 (4360) = nI S.1 from hS1.1]
      refine Ev.jge (tgt := 158) rfl (by decide) (fun c129 => absurd (nI_lt hk (by omega)) c129) (fun c129 => ?_)
      refine Ev.aload_n rfl rfl ?_
      refine Ev.getf rfl rfl m0 rfl ?_
      refine Ev.iload_n rfl rfl ?_
      refine Ev.bipush (v := 13) rfl (by decide) ?_
      refine Ev.iadd rfl ?_
      refine Ev.iload_n rfl rfl ?_
      refine Ev.iadd rfl ?_
      refine Ev.dup2 rfl rfl rfl ?_
      refine Ev.ialdN (k := 4360 + 13 + k) rfl m1 (nq_to (a := 4360 + 13 + k) (nq_add (a := 4360 + 13) (b := k) (nq_add (a := 4360) (b := 13) (rfl : (4360 : Int32) = nI 4360) (rfl : (13 : Int32) = nI 13)) rfl) (by omega)) ⟨(by omega), by decide⟩ ?_
      rw [show A1 (4360 + 13 + k) = z k from (hS1.2.2.2.1 k (by show k < S.1; omega)).1]
      refine Ev.aload_n rfl rfl ?_
      refine Ev.getf rfl rfl m0 rfl ?_
      refine Ev.iload_n rfl rfl ?_
      refine Ev.ialdN (k := k) rfl m_row rfl ⟨(by omega), by decide⟩ ?_
      refine Ev.iadd rfl ?_
      refine Ev.iastE (k := 4360 + 13 + k) rfl m1 (nq_to (a := 4360 + 13 + k) (nq_add (a := 4360 + 13) (b := k) (nq_add (a := 4360) (b := 13) (rfl : (4360 : Int32) = nI 4360) (rfl : (13 : Int32) = nI 13)) rfl) (by omega)) ⟨(by omega), by decide⟩ (fun τ4 f1 q1 => ?_)
      have hTr := tr_upd hA1 hS1 hn16 hn5 (by omega) q1
      have m_row := frm.cell f1 m_row (by omega)
      have kp : (∀ q, q ≠ y + 1 → q ≠ y + 9 → τ4.2 q = σ.2 q) := fun q n0 n1 => (f1.2 q (by omega)).trans (kp q n0 n1)
      have fr := fr.step f1 (by omega) (by omega)
      have m0 := frm.cell fr m00 (by omega)
      obtain ⟨A1, m1, hA1, hS1⟩ := id hTr
      have hM : isM _ y _ A1 := ⟨m0, m1⟩
      have hP : mP A1 (970 + 40 * p) P := hP0.mv h6 (fun k hk => hA1 _ (by omega))
      refine Ev.iinc (d := 1) rfl rfl rfl (by decide) rfl ?_
      refine Ev.goto (tgt := 122) rfl (by decide) ?_
      have hF : (F_m_year_122 S P f v_row) k z = (upd z k ((z k) + ((fo (F_m_year_2 S P f v_row) (S.1) 0 v_row) k))) := by rfl
      rw [hF] at hx
      exact (hx τ4 fr hTr m_row kp).fg (gs rfl (gs rfl (gn (gs (congrArg Value.int (show nI (k + 1) = (nI k) + (1 : Int32) from (nq_to (a := k + 1) (nq_add (a := k) (b := 1) rfl (rfl : (1 : Int32) = nI 1)) (by omega)).symm)) (gn (gn gz))))))
    · skip
      intro τ' fr hTr m_row kp
      have m0 := frm.cell fr m00 (by omega)
      obtain ⟨A1, m1, hA1, hS1⟩ := id hTr
      have hM : isM _ y _ A1 := ⟨m0, m1⟩
      have hP : mP A1 (970 + 40 * p) P := hP0.mv h6 (fun k hk => hA1 _ (by omega))
      refine Ev.iload_n rfl rfl ?_
      refine Ev.aload_n rfl rfl ?_
      refine Ev.getf rfl rfl m0 rfl ?_
      refine Ev.iload_n rfl rfl ?_
      refine Ev.ialdN (k := 4360) rfl m1 (nq_to (a := 4360) (rfl : (4360 : Int32) = nI 4360) (by omega)) ⟨(by omega), by decide⟩ ?_
      rw [show A1 (4360) = nI S.1 from hS1.1]
      refine Ev.jge (tgt := 158) rfl (by decide) (fun c129 => ?_) (fun c129 => absurd c129 (nI_nlt (Nat.le_refl _) (by omega)))
      refine Ev.ret rfl rfl (Nat.le_refl _) (Nat.le_refl _) ?_
      have hK : (K_m_year S P f v_row) = ((fo (F_m_year_122 S P f v_row) (S.1) 0 f), (fo (F_m_year_2 S P f v_row) (S.1) 0 v_row)) := by rfl
      rw [← hQ]
      dsimp only
      rw [hK]
      exact ⟨rfl, fr, hTr, m_row, kp⟩
theorem tr_carryW {σ τ : ex_S} {y lo hi : Nat} {A : Nat → Int32} {S : Sch} {f : Nat → Int32} (f1 : frm σ τ lo hi) (hy : y + 1 < lo ∨ hi ≤ y + 1) (h : isTr σ y A S f ∧ wS (S_st S f)) : isTr τ y A S f ∧ wS (S_st S f) := ⟨tr_carry f1 hy h.1, h.2⟩
theorem fo_upd {F : Nat → (Nat → Int32) → (Nat → Int32)} {h : Nat → Int32} : ∀ (n i : Nat) (z : Nat → Int32), (∀ k z, i ≤ k → k < i + n → F k z = upd z k (h k)) → ∀ q, fo F n i z q = if i ≤ q ∧ q < i + n then h q else z q := by
  intro n
  induction n with
  | zero => intro i z _ q; rw [fo_zero, if_neg (by omega)]
  | succ n ih =>
    intro i z hF q
    rw [fo_succ, ih (i + 1) _ (fun k z h1 h2 => hF k z (by omega) (by omega)), hF i z (Nat.le_refl _) (by omega)]
    by_cases e : q = i
    · subst e
      rw [if_neg (by omega), if_pos (by omega), pk_us]
    · rw [pk_un e]
      by_cases e2 : i ≤ q ∧ q < i + (n + 1)
      · rw [if_pos e2, if_pos (by omega)]
      · rw [if_neg e2, if_neg (by omega)]
theorem fo_updz {F : Nat → (Nat → Int32) → (Nat → Int32)} {r : Nat → Int32} : ∀ (n i : Nat) (z : Nat → Int32), (∀ k z, i ≤ k → k < i + n → F k z = upd z k (z k + r k)) → ∀ q, fo F n i z q = if i ≤ q ∧ q < i + n then z q + r q else z q := by
  intro n
  induction n with
  | zero => intro i z _ q; rw [fo_zero, if_neg (by omega)]
  | succ n ih =>
    intro i z hF q
    rw [fo_succ, ih (i + 1) _ (fun k z h1 h2 => hF k z (by omega) (by omega)), hF i z (Nat.le_refl _) (by omega)]
    by_cases e : q = i
    · subst e
      rw [if_neg (by omega), if_pos (by omega), pk_us]
    · rw [pk_un e]
      by_cases e2 : i ≤ q ∧ q < i + (n + 1)
      · rw [if_pos e2, if_pos (by omega)]
      · rw [if_neg e2, if_neg (by omega)]
/-- one step more, or none -/
def K_up (S : Sch) (P : Pln) (f v_row : Nat → Int32) (k : Nat) : Int32 := if fo (F_m_year_18 S P f v_row k v_row) P.1 0 (0 : Int32) < S.2.2 9 8 then 0 else if f k < 11 then 1 else 0
theorem row_at (S : Sch) (P : Pln) (f v_row : Nat → Int32) (q : Nat) (h : q < S.1) : (K_m_year S P f v_row).2 q = K_up S P f v_row q := by
  show fo (F_m_year_2 S P f v_row) S.1 0 v_row q = _
  rw [fo_upd (F := F_m_year_2 S P f v_row) (h := K_up S P f v_row) S.1 0 v_row (fun k z _ _ => ?_) q, if_pos (by omega)]
  show (if fo (F_m_year_18 S P f v_row k v_row) P.1 0 (0 : Int32) < S.2.2 9 8 then upd z k 0 else if f k < 11 then upd z k 1 else upd z k 0) = _
  unfold K_up
  split
  · rfl
  · split <;> rfl
theorem year_at (S : Sch) (P : Pln) (f v_row : Nat → Int32) (q : Nat) (h : q < S.1) : (K_m_year S P f v_row).1 q = f q + K_up S P f v_row q := by
  show fo (F_m_year_122 S P f v_row) S.1 0 f q = _
  rw [fo_updz (F := F_m_year_122 S P f v_row) (r := (K_m_year S P f v_row).2) S.1 0 f (fun k z _ _ => rfl) q, if_pos (by omega), row_at S P f v_row q h]
theorem wS_steps {S : Sch} {f g : Nat → Int32} (hw : wS (S_st S f)) (h : ∀ i, i < S.1 → rg (g i) 0 11) : wS (S_st S g) := by
  obtain ⟨a1, a2, a3, a4⟩ := hw
  exact ⟨a1, a2, fun i hi => ⟨h i hi, (a3 i hi).2⟩, a4⟩
theorem wS_yr {S : Sch} {P : Pln} {f : Nat → Int32} (hw : wS (S_st S f)) (hn : S.1 ≤ 16) (v_row : Nat → Int32) : wS (S_st S (K_m_year S P f v_row).1) := by
  refine wS_steps hw (fun i hi => ?_)
  rw [year_at S P f v_row i hi]
  have h0 : rg (f i) 0 11 := (hw.2.2.1 i hi).1
  obtain ⟨q, e, h1, h2, -⟩ := h0.nat (by decide)
  unfold K_up
  split
  · rw [add0]; exact h0
  · split
    · rename_i c
      have e11 : (11 : Int32) = nI 11 := rfl
      rw [e, e11, nI_ltI (by omega) (by omega)] at c
      rw [e, nI_1]
      exact rg_nI (by omega) (by omega) (by omega)
    · rw [add0]; exact h0
theorem wS_up1 {S : Sch} {f : Nat → Int32} {l : Nat} (hw : wS (S_st S f)) (hn : S.1 ≤ 16) (hl : l < S.1) (c : (S_st S f).2.2 0 l < 11) : wS (S_st S (upd f l (f l + 1))) := by
  refine wS_steps hw (fun i hi => ?_)
  have h0 : rg (f i) 0 11 := (hw.2.2.1 i hi).1
  by_cases e : i = l
  · subst e
    rw [pk_us]
    obtain ⟨q, e, h1, h2, -⟩ := h0.nat (by decide)
    have c : f i < 11 := c
    have e11 : (11 : Int32) = nI 11 := rfl
    rw [e, e11, nI_ltI (by omega) (by omega)] at c
    rw [e, nI_1]
    exact rg_nI (by omega) (by omega) (by omega)
  · rw [pk_un e]
    exact h0
variable {v_row : Nat → Int32}
theorem goP_st {S : Sch} {P : Pln} {f : Nat → Int32} (h : goP S P) : goP (S_st S f) P := h
def F_m_ladder_36 (T : Tol) (i j : Nat) (n : Nat) (v_row : Nat → Int32) : Nat → ((Nat → Int32) × (Nat → Int32)) → ((Nat → Int32) × (Nat → Int32)) := fun k z => ((K_m_year (tS T i) (tP T j) z.1 z.2).1, (K_m_year (tS T i) (tP T j) z.1 z.2).2)
def K_m_ladder (T : Tol) (i j : Nat) (n : Nat) (v_row : Nat → Int32) : Int32 × (Nat → Int32) × (Nat → Int32) := (K_inAll (S_st (tS T i) ((fo (F_m_ladder_36 T i j n v_row) (n - 1) 1 ((tS T i).2.2 0, v_row)).1)) (tP T j), (fo (F_m_ladder_36 T i j n v_row) (n - 1) 1 ((tS T i).2.2 0, v_row)).1, (fo (F_m_ladder_36 T i j n v_row) (n - 1) 1 ((tS T i).2.2 0, v_row)).2)
theorem m_ladder_some (hM0 : isM σ y g A) (hT : mT A 0 T) (hw : wT T) (m_row : σ.2 (y + 9) = some (.inl (0, 16, v_row))) {u v : Int32} {i j : Nat} (hg : gd T u v i j) {n : Nat} (hn1 : 1 ≤ n) (hn2 : n ≤ 12) : RetX Γ m_M_ladder [(.ref y), .int u, .int v, (.int (nI n))] σ (y + 1) (y + 17) (some (.int ((K_m_ladder T i j n v_row).1))) (fun τ => (isTr τ y A (tS T i) ((K_m_ladder T i j n v_row).2.1) ∧ wS (S_st (tS T i) ((K_m_ladder T i j n v_row).2.1))) ∧ τ.2 (y + 9) = some (.inl (0, 16, (K_m_ladder T i j n v_row).2.2)) ∧ (∀ q, q ≠ y + 1 → q ≠ y + 9 → τ.2 q = σ.2 q)) := by
  obtain ⟨m00, hTr⟩ := id hM0
  have hT1 := hT
  have hgd := hg
  obtain ⟨rfl, hi, rfl, hj, hgo⟩ := hg
  have hi3 : i < 3 := by have := hw.2.1; omega
  have hj3 : j < 3 := by have := hw.2.2.1; omega
  have hwS := hw.2.2.2.1 i hi
  have hwP := hw.2.2.2.2 j hj
  have hn16 := hwS.1
  have hn5 := hwS.2.1
  have h6 := hwP.1
  have hS0 := hT.s hi
  have hP0 := hT.p hj
  have hs : 610 + 120 * i + 120 ≤ 4500 := by omega
  unfold RetX
  generalize hQ : (fun (r : Option Value) (τ : ex_S) => r = some (.int ((K_m_ladder T i j n v_row).1)) ∧ frm σ τ (y + 1) (y + 17) ∧ (fun τ : ex_S => (isTr τ y A (tS T i) ((K_m_ladder T i j n v_row).2.1) ∧ wS (S_st (tS T i) ((K_m_ladder T i j n v_row).2.1))) ∧ τ.2 (y + 9) = some (.inl (0, 16, (K_m_ladder T i j n v_row).2.2)) ∧ (∀ q, q ≠ y + 1 → q ≠ y + 9 → τ.2 q = σ.2 q)) τ) = Q
  refine Ret.start pm_248 rfl ?_
  have fr : frm σ σ (y + 1) (y + 17) := frm.rf
  have kp : (∀ q, q ≠ y + 1 → q ≠ y + 9 → σ.2 q = σ.2 q) := fun _ _ _ => rfl
  have m0 := frm.cell fr m00 (by omega)
  have m1 := hTr
  have hM : isM _ y _ A := ⟨m0, m1⟩
  have hP := hP0
  have hS := hS0
  refine Ev.aload_n rfl rfl ?_
  refine Ev.iload_n rfl rfl ?_
  refine Ev.iload_n rfl rfl ?_
  refine Ev.cV2 rfl rfl m0 rfl rfl (by decide) ⟨(Nat.le_refl _), (Nat.le_refl _)⟩ (m_goes_yes hM hT1 hw hgd) ?_
  refine Ev.zeq (tgt := 19) rfl (by decide) (fun c6 => absurd c6 (by decide)) (fun c6 => ?_)
  refine Ev.iload_n rfl rfl ?_
  refine Ev.iconst (v := 1) rfl (by decide) ?_
  refine Ev.bipush (v := 12) rfl (by decide) ?_
  refine Ev.cS3 rfl rfl rfl (by decide) ⟨(Nat.le_refl _), (Nat.le_refl _)⟩ (m_in_y (K_in12 hn1 hn2)) ?_
  refine Ev.zne (tgt := 21) rfl (by decide) (fun c16 => ?_) (fun c16 => absurd c16 (by decide))
  refine Ev.aload_n rfl rfl ?_
  refine Ev.iconst (v := 0) rfl (by decide) ?_
  refine Ev.iload_n rfl rfl ?_
  refine Ev.cS2 rfl rfl rfl (by decide) ⟨(Nat.le_refl _), (Nat.le_refl _)⟩ (m_pl0_ok i) ?_
  refine Ev.sipush (v := 4360) rfl (by decide) ?_
  refine Ev.xV2u rfl rfl m0 rfl rfl (by decide) ⟨(Nat.le_refl _), (Nat.le_refl _)⟩ (m_copies_ok (s := 610 + 120 * i) (t := 4360) hM (by omega) (by omega)) (fun τ1 f1 q1 => ?_)
  have hTr : (isTr τ1 y A (tS T i) ((tS T i).2.2 0) ∧ wS (S_st (tS T i) ((tS T i).2.2 0))) := ⟨cp_tr hS hwS (by omega) q1, by rw [S_st_self]; exact hwS⟩
  have m_row := frm.cell f1 m_row (by omega)
  have kp : (∀ q, q ≠ y + 1 → q ≠ y + 9 → τ1.2 q = σ.2 q) := fun q n0 n1 => (f1.2 q (by omega)).trans (kp q n0 n1)
  have fr := fr.step f1 (by omega) (by omega)
  have m0 := frm.cell fr m00 (by omega)
  obtain ⟨⟨A1, m1, hA1, hS1⟩, hwf⟩ := id hTr
  have hM : isM _ y _ A1 := ⟨m0, m1⟩
  have hP : mP A1 (970 + 40 * j) (tP T j) := hP0.mv h6 (fun k hk => hA1 _ (by omega))
  have hS : mS A1 (610 + 120 * i) (tS T i) := hS0.mv hn16 hn5 (fun k hk => hA1 _ (by omega))
  refine Ev.iconst (v := 1) rfl (by decide) ?_
  refine Ev.istore rfl rfl rfl ?_
  refine Ev.fg (L := [some (.ref y), none, some (.int (nI j)), some (.int (nI n)), some (.int (nI 1))]) ?_ (gs rfl (gn (gs rfl (gs rfl (gs (congrArg Value.int (rfl : (1 : Int32) = nI 1).symm) gz)))))
  refine lp (fun (k : Nat) (z : (Nat → Int32) × (Nat → Int32)) => ∀ τ' : ex_S, frm σ τ' (y + 1) (y + 17) → (isTr τ' y A (tS T i) z.1 ∧ wS (S_st (tS T i) z.1)) → τ'.2 (y + 9) = some (.inl (0, 16, z.2)) → (∀ q, q ≠ y + 1 → q ≠ y + 9 → τ'.2 q = σ.2 q) → Ev Γ 0 0 m_M_ladder 0 0 36 [some (.ref y), none, some (.int (nI j)), some (.int (nI n)), some (.int (nI k))] [] τ' Q) (F_m_ladder_36 T i j n v_row) (n) (fun k z hk hx => ?_) (n - 1) 1 ((tS T i).2.2 0, v_row) (by omega) ?_ τ1 fr hTr m_row kp
  · skip
    intro τ' fr hTr m_row kp
    have m0 := frm.cell fr m00 (by omega)
    obtain ⟨⟨A1, m1, hA1, hS1⟩, hwf⟩ := id hTr
    have hM : isM _ y _ A1 := ⟨m0, m1⟩
    have hP : mP A1 (970 + 40 * j) (tP T j) := hP0.mv h6 (fun k hk => hA1 _ (by omega))
    have hS : mS A1 (610 + 120 * i) (tS T i) := hS0.mv hn16 hn5 (fun k hk => hA1 _ (by omega))
    refine Ev.iload rfl rfl ?_
    refine Ev.iload_n rfl rfl ?_
    refine Ev.jge (tgt := 56) rfl (by decide) (fun c39 => absurd (nI_lt hk (by omega)) c39) (fun c39 => ?_)
    refine Ev.aload_n rfl rfl ?_
    refine Ev.sipush (v := 4360) rfl (by decide) ?_
    refine Ev.iload_n rfl rfl ?_
    refine Ev.xV2u rfl rfl m0 rfl rfl (by decide) ⟨(Nat.le_refl _), (Nat.le_refl _)⟩ (m_year_ok m0 hTr.1 m_row hwf hP0 hj3 hwP hgo hn16 hn5) (fun τ2 f1 q1 => ?_)
    obtain ⟨hTr, m_row, k1⟩ := q1
    have hTr : (isTr τ2 y A (tS T i) ((K_m_year (tS T i) (tP T j) z.1 z.2).1) ∧ wS (S_st (tS T i) ((K_m_year (tS T i) (tP T j) z.1 z.2).1))) := ⟨hTr, wS_yr hwf hwS.1 z.2⟩
    have kp : (∀ q, q ≠ y + 1 → q ≠ y + 9 → τ2.2 q = σ.2 q) := fun q n0 n1 => (k1 q (by omega) (by omega)).trans (kp q n0 n1)
    have fr := fr.step f1 (by omega) (by omega)
    have m0 := frm.cell fr m00 (by omega)
    obtain ⟨⟨A1, m1, hA1, hS1⟩, hwf⟩ := id hTr
    have hM : isM _ y _ A1 := ⟨m0, m1⟩
    have hP : mP A1 (970 + 40 * j) (tP T j) := hP0.mv h6 (fun k hk => hA1 _ (by omega))
    have hS : mS A1 (610 + 120 * i) (tS T i) := hS0.mv hn16 hn5 (fun k hk => hA1 _ (by omega))
    refine Ev.iinc (d := 1) rfl rfl rfl (by decide) rfl ?_
    refine Ev.goto (tgt := 36) rfl (by decide) ?_
    have hF : (F_m_ladder_36 T i j n v_row) k z = ((K_m_year (tS T i) (tP T j) z.1 z.2).1, (K_m_year (tS T i) (tP T j) z.1 z.2).2) := by rfl
    rw [hF] at hx
    exact (hx τ2 fr hTr m_row kp).fg (gs rfl (gn (gs rfl (gs rfl (gs (congrArg Value.int (show nI (k + 1) = (nI k) + (1 : Int32) from (nq_to (a := k + 1) (nq_add (a := k) (b := 1) rfl (rfl : (1 : Int32) = nI 1)) (by omega)).symm)) gz)))))
  · skip
    intro τ' fr hTr m_row kp
    have m0 := frm.cell fr m00 (by omega)
    obtain ⟨⟨A1, m1, hA1, hS1⟩, hwf⟩ := id hTr
    have hM : isM _ y _ A1 := ⟨m0, m1⟩
    have hP : mP A1 (970 + 40 * j) (tP T j) := hP0.mv h6 (fun k hk => hA1 _ (by omega))
    have hS : mS A1 (610 + 120 * i) (tS T i) := hS0.mv hn16 hn5 (fun k hk => hA1 _ (by omega))
    refine Ev.iload rfl rfl ?_
    refine Ev.iload_n rfl rfl ?_
    refine Ev.jge (tgt := 56) rfl (by decide) (fun c39 => ?_) (fun c39 => absurd c39 (nI_nlt (Nat.le_refl _) (by omega)))
    refine Ev.aload_n rfl rfl ?_
    refine Ev.sipush (v := 4360) rfl (by decide) ?_
    refine Ev.iload_n rfl rfl ?_
    refine Ev.cV2 rfl rfl m0 rfl rfl (by decide) ⟨(Nat.le_refl _), (Nat.le_refl _)⟩ (m_inAll_ok (s := 4360) hM hS1 (by omega) hwf hP hj3 hwP (goP_st hgo)) ?_
    refine Ev.iret (ty := .int) rfl rfl rfl (Nat.le_refl _) (Nat.le_refl _) ?_
    have hK : (K_m_ladder T i j n v_row) = (K_inAll (S_st (tS T i) ((fo (F_m_ladder_36 T i j n v_row) (n - 1) 1 ((tS T i).2.2 0, v_row)).1)) (tP T j), (fo (F_m_ladder_36 T i j n v_row) (n - 1) 1 ((tS T i).2.2 0, v_row)).1, (fo (F_m_ladder_36 T i j n v_row) (n - 1) 1 ((tS T i).2.2 0, v_row)).2) := by rfl
    rw [← hQ]
    dsimp only
    rw [hK]
    exact ⟨rfl, fr, hTr, m_row, kp⟩
def F_m_pass_39 (T : Tol) (i j : Nat) (v_row : Nat → Int32) : Nat → Int32 → Int32 := fun k z => if ((tS T i).2.2 0 k) < ((S_st (tS T i) ((K_m_year (tS T i) (tP T j) ((tS T i).2.2 0) v_row).1)).2.2 0 k) then (z ||| ((1 : Int32) <<< ((nI k) &&& 31))) else (z ||| (0 : Int32))
def K_m_pass (T : Tol) (i j : Nat) (v_row : Nat → Int32) : Int32 × (Nat → Int32) × (Nat → Int32) := ((fo (F_m_pass_39 T i j v_row) ((tS T i).1) 0 (0 : Int32)), (K_m_year (tS T i) (tP T j) ((tS T i).2.2 0) v_row).1, (K_m_year (tS T i) (tP T j) ((tS T i).2.2 0) v_row).2)
theorem m_pass_some (hM0 : isM σ y g A) (hT : mT A 0 T) (hw : wT T) (m_row : σ.2 (y + 9) = some (.inl (0, 16, v_row))) {u v : Int32} {i j : Nat} (hg : gd T u v i j)  : RetX Γ m_M_pass [(.ref y), .int u, .int v] σ (y + 1) (y + 17) (some (.int ((K_m_pass T i j v_row).1))) (fun τ => (isTr τ y A (tS T i) ((K_m_pass T i j v_row).2.1) ∧ wS (S_st (tS T i) ((K_m_pass T i j v_row).2.1))) ∧ τ.2 (y + 9) = some (.inl (0, 16, (K_m_pass T i j v_row).2.2)) ∧ (∀ q, q ≠ y + 1 → q ≠ y + 9 → τ.2 q = σ.2 q)) := by
  obtain ⟨m00, hTr⟩ := id hM0
  have hT1 := hT
  have hgd := hg
  obtain ⟨rfl, hi, rfl, hj, hgo⟩ := hg
  have hi3 : i < 3 := by have := hw.2.1; omega
  have hj3 : j < 3 := by have := hw.2.2.1; omega
  have hwS := hw.2.2.2.1 i hi
  have hwP := hw.2.2.2.2 j hj
  have hn16 := hwS.1
  have hn5 := hwS.2.1
  have h6 := hwP.1
  have hS0 := hT.s hi
  have hP0 := hT.p hj
  have hs : 610 + 120 * i + 120 ≤ 4500 := by omega
  unfold RetX
  generalize hQ : (fun (r : Option Value) (τ : ex_S) => r = some (.int ((K_m_pass T i j v_row).1)) ∧ frm σ τ (y + 1) (y + 17) ∧ (fun τ : ex_S => (isTr τ y A (tS T i) ((K_m_pass T i j v_row).2.1) ∧ wS (S_st (tS T i) ((K_m_pass T i j v_row).2.1))) ∧ τ.2 (y + 9) = some (.inl (0, 16, (K_m_pass T i j v_row).2.2)) ∧ (∀ q, q ≠ y + 1 → q ≠ y + 9 → τ.2 q = σ.2 q)) τ) = Q
  refine Ret.start pm_273 rfl ?_
  have fr : frm σ σ (y + 1) (y + 17) := frm.rf
  have kp : (∀ q, q ≠ y + 1 → q ≠ y + 9 → σ.2 q = σ.2 q) := fun _ _ _ => rfl
  have m0 := frm.cell fr m00 (by omega)
  have m1 := hTr
  have hM : isM _ y _ A := ⟨m0, m1⟩
  have hP := hP0
  have hS := hS0
  refine Ev.aload_n rfl rfl ?_
  refine Ev.iload_n rfl rfl ?_
  refine Ev.iload_n rfl rfl ?_
  refine Ev.cV2 rfl rfl m0 rfl rfl (by decide) ⟨(Nat.le_refl _), (Nat.le_refl _)⟩ (m_goes_yes hM hT1 hw hgd) ?_
  refine Ev.zne (tgt := 11) rfl (by decide) (fun c6 => ?_) (fun c6 => absurd c6 (by decide))
  refine Ev.iconst (v := 0) rfl (by decide) ?_
  refine Ev.iload_n rfl rfl ?_
  refine Ev.cS2 rfl rfl rfl (by decide) ⟨(Nat.le_refl _), (Nat.le_refl _)⟩ (m_pl0_ok i) ?_
  refine Ev.istore_n rfl rfl rfl ?_
  refine Ev.aload_n rfl rfl ?_
  refine Ev.iload_n rfl rfl ?_
  refine Ev.sipush (v := 4360) rfl (by decide) ?_
  refine Ev.xV2u rfl rfl m0 rfl rfl (by decide) ⟨(Nat.le_refl _), (Nat.le_refl _)⟩ (m_copies_ok (s := 610 + 120 * i) (t := 4360) hM (by omega) (by omega)) (fun τ1 f1 q1 => ?_)
  have hTr : (isTr τ1 y A (tS T i) ((tS T i).2.2 0) ∧ wS (S_st (tS T i) ((tS T i).2.2 0))) := ⟨cp_tr hS hwS (by omega) q1, by rw [S_st_self]; exact hwS⟩
  have m_row := frm.cell f1 m_row (by omega)
  have kp : (∀ q, q ≠ y + 1 → q ≠ y + 9 → τ1.2 q = σ.2 q) := fun q n0 n1 => (f1.2 q (by omega)).trans (kp q n0 n1)
  have fr := fr.step f1 (by omega) (by omega)
  have m0 := frm.cell fr m00 (by omega)
  obtain ⟨⟨A1, m1, hA1, hS1⟩, hwf⟩ := id hTr
  have hM : isM _ y _ A1 := ⟨m0, m1⟩
  have hP : mP A1 (970 + 40 * j) (tP T j) := hP0.mv h6 (fun k hk => hA1 _ (by omega))
  have hS : mS A1 (610 + 120 * i) (tS T i) := hS0.mv hn16 hn5 (fun k hk => hA1 _ (by omega))
  refine Ev.aload_n rfl rfl ?_
  refine Ev.sipush (v := 4360) rfl (by decide) ?_
  refine Ev.iload_n rfl rfl ?_
  refine Ev.xV2u rfl rfl m0 rfl rfl (by decide) ⟨(Nat.le_refl _), (Nat.le_refl _)⟩ (m_year_ok m0 hTr.1 m_row hwf hP0 hj3 hwP hgo hn16 hn5) (fun τ2 f1 q1 => ?_)
  obtain ⟨hTr, m_row, k1⟩ := q1
  have hTr : (isTr τ2 y A (tS T i) ((K_m_year (tS T i) (tP T j) ((tS T i).2.2 0) v_row).1) ∧ wS (S_st (tS T i) ((K_m_year (tS T i) (tP T j) ((tS T i).2.2 0) v_row).1))) := ⟨hTr, wS_yr hwf hwS.1 v_row⟩
  have kp : (∀ q, q ≠ y + 1 → q ≠ y + 9 → τ2.2 q = σ.2 q) := fun q n0 n1 => (k1 q (by omega) (by omega)).trans (kp q n0 n1)
  have fr := fr.step f1 (by omega) (by omega)
  have m0 := frm.cell fr m00 (by omega)
  obtain ⟨⟨A1, m1, hA1, hS1⟩, hwf⟩ := id hTr
  have hM : isM _ y _ A1 := ⟨m0, m1⟩
  have hP : mP A1 (970 + 40 * j) (tP T j) := hP0.mv h6 (fun k hk => hA1 _ (by omega))
  have hS : mS A1 (610 + 120 * i) (tS T i) := hS0.mv hn16 hn5 (fun k hk => hA1 _ (by omega))
  refine Ev.iconst (v := 0) rfl (by decide) ?_
  refine Ev.istore rfl rfl rfl ?_
  refine Ev.iconst (v := 0) rfl (by decide) ?_
  refine Ev.istore rfl rfl rfl ?_
  refine Ev.fg (L := [some (.ref y), none, none, some (.int (nI (610 + 120 * i))), some (.int (0 : Int32)), some (.int (nI 0))]) ?_ (gs rfl (gn (gn (gs rfl (gs rfl (gs (congrArg Value.int (rfl : (0 : Int32) = nI 0).symm) gz))))))
  refine lp (fun (k : Nat) (z : Int32) => Ev Γ 0 0 m_M_pass 0 0 39 [some (.ref y), none, none, some (.int (nI (610 + 120 * i))), some (.int z), some (.int (nI k))] [] τ2 Q) (F_m_pass_39 T i j v_row) ((tS T i).1) (fun k z hk hx => ?_) ((tS T i).1) 0 (0 : Int32) (by omega) ?_
  · skip
    refine Ev.iload rfl rfl ?_
    refine Ev.aload_n rfl rfl ?_
    refine Ev.getf rfl rfl m0 rfl ?_
    refine Ev.iload_n rfl rfl ?_
    refine Ev.ialdN (k := 610 + 120 * i) rfl m1 (nq_to (a := 610 + 120 * i) rfl (by omega)) ⟨(by omega), by decide⟩ ?_
    rw [hS.1]
    refine Ev.jge (tgt := 88) rfl (by decide) (fun c47 => absurd (nI_lt hk (by omega)) c47) (fun c47 => ?_)
    refine Ev.iload rfl rfl ?_
    refine Ev.aload_n rfl rfl ?_
    refine Ev.sipush (v := 4360) rfl (by decide) ?_
    refine Ev.iload rfl rfl ?_
    refine Ev.cV2 rfl rfl m0 rfl rfl (by decide) ⟨(Nat.le_refl _), (Nat.le_refl _)⟩ (m_step_ok (s := 4360) hM hS1 (by omega) hwf k (by show k < (tS T i).1; omega)) ?_
    refine Ev.aload_n rfl rfl ?_
    refine Ev.iload_n rfl rfl ?_
    refine Ev.iload rfl rfl ?_
    refine Ev.cV2 rfl rfl m0 rfl rfl (by decide) ⟨(Nat.le_refl _), (Nat.le_refl _)⟩ (m_step_ok hM hS hs hwS k (by omega)) ?_
    refine Ev.jle (tgt := 78) rfl (by decide) (fun c68 => ?_) (fun c68 => ?_)
    · skip
      refine Ev.iconst (v := 0) rfl (by decide) ?_
      refine Ev.ior rfl ?_
      refine Ev.istore rfl rfl rfl ?_
      refine Ev.iinc (d := 1) rfl rfl rfl (by decide) rfl ?_
      refine Ev.goto (tgt := 39) rfl (by decide) ?_
      have hF : (F_m_pass_39 T i j v_row) k z = z ||| (0 : Int32) := by
        unfold F_m_pass_39
        rw [if_neg c68]
      rw [hF] at hx
      exact hx.fg (gs rfl (gn (gn (gs rfl (gs rfl (gs (congrArg Value.int (show nI (k + 1) = (nI k) + (1 : Int32) from (nq_to (a := k + 1) (nq_add (a := k) (b := 1) rfl (rfl : (1 : Int32) = nI 1)) (by omega)).symm)) gz))))))
    · skip
      refine Ev.iconst (v := 1) rfl (by decide) ?_
      refine Ev.iload rfl rfl ?_
      refine Ev.ishl rfl ?_
      refine Ev.goto (tgt := 79) rfl (by decide) ?_
      refine Ev.ior rfl ?_
      refine Ev.istore rfl rfl rfl ?_
      refine Ev.iinc (d := 1) rfl rfl rfl (by decide) rfl ?_
      refine Ev.goto (tgt := 39) rfl (by decide) ?_
      have hF : (F_m_pass_39 T i j v_row) k z = z ||| ((1 : Int32) <<< ((nI k) &&& 31)) := by
        unfold F_m_pass_39
        rw [if_pos c68]
      rw [hF] at hx
      exact hx.fg (gs rfl (gn (gn (gs rfl (gs rfl (gs (congrArg Value.int (show nI (k + 1) = (nI k) + (1 : Int32) from (nq_to (a := k + 1) (nq_add (a := k) (b := 1) rfl (rfl : (1 : Int32) = nI 1)) (by omega)).symm)) gz))))))
  · skip
    refine Ev.iload rfl rfl ?_
    refine Ev.aload_n rfl rfl ?_
    refine Ev.getf rfl rfl m0 rfl ?_
    refine Ev.iload_n rfl rfl ?_
    refine Ev.ialdN (k := 610 + 120 * i) rfl m1 (nq_to (a := 610 + 120 * i) rfl (by omega)) ⟨(by omega), by decide⟩ ?_
    rw [hS.1]
    refine Ev.jge (tgt := 88) rfl (by decide) (fun c47 => ?_) (fun c47 => absurd c47 (nI_nlt (Nat.le_refl _) (by omega)))
    refine Ev.iload rfl rfl ?_
    refine Ev.iret (ty := .int) rfl rfl rfl (Nat.le_refl _) (Nat.le_refl _) ?_
    have hK : (K_m_pass T i j v_row) = ((fo (F_m_pass_39 T i j v_row) ((tS T i).1) 0 (0 : Int32)), (K_m_year (tS T i) (tP T j) ((tS T i).2.2 0) v_row).1, (K_m_year (tS T i) (tP T j) ((tS T i).2.2 0) v_row).2) := by rfl
    rw [← hQ]
    dsimp only
    rw [hK]
    exact ⟨rfl, fr, hTr, m_row, kp⟩
def F_m_june_61 (T : Tol) (i j : Nat) (k0 l n : Nat) (v_row : Nat → Int32) : Nat → (Nat → Int32) → (Nat → Int32) := fun k z => if (K_by (S_st (tS T i) z) ((tP T j).2 k0) (((tP T j).2 k0 5) ||| ((1 : Int32) <<< ((nI l) &&& 31))) l) < ((tS T i).2.2 9 8) then z else (if ((S_st (tS T i) z).2.2 0 l) < (11 : Int32) then (upd z l ((z l) + (1 : Int32))) else z)
def K_m_june (T : Tol) (i j : Nat) (k0 l n : Nat) (v_row : Nat → Int32) : Int32 × (Nat → Int32) × (Nat → Int32) := ((S_st (tS T i) (fo (F_m_june_61 T i j k0 l n v_row) (n) 0 ((tS T i).2.2 0))).2.2 0 l, (fo (F_m_june_61 T i j k0 l n v_row) (n) 0 ((tS T i).2.2 0)), v_row)
theorem m_june_some (hM0 : isM σ y g A) (hT : mT A 0 T) (hw : wT T) (m_row : σ.2 (y + 9) = some (.inl (0, 16, v_row))) {u v : Int32} {i j : Nat} (hg : gd T u v i j) {k0 l n : Nat} (hkk : k0 < (tP T j).1) (hl : l < (tS T i).1) (hn2 : n ≤ 12) : RetX Γ m_M_june [(.ref y), .int u, .int v, (.int (nI k0)), (.int (nI l)), (.int (nI n))] σ (y + 1) (y + 17) (some (.int ((K_m_june T i j k0 l n v_row).1))) (fun τ => (isTr τ y A (tS T i) ((K_m_june T i j k0 l n v_row).2.1) ∧ wS (S_st (tS T i) ((K_m_june T i j k0 l n v_row).2.1))) ∧ τ.2 (y + 9) = some (.inl (0, 16, (K_m_june T i j k0 l n v_row).2.2)) ∧ (∀ q, q ≠ y + 1 → q ≠ y + 9 → τ.2 q = σ.2 q)) := by
  obtain ⟨m00, hTr⟩ := id hM0
  have hT1 := hT
  have hgd := hg
  obtain ⟨rfl, hi, rfl, hj, hgo⟩ := hg
  have hi3 : i < 3 := by have := hw.2.1; omega
  have hj3 : j < 3 := by have := hw.2.2.1; omega
  have hwS := hw.2.2.2.1 i hi
  have hwP := hw.2.2.2.2 j hj
  have hn16 := hwS.1
  have hn5 := hwS.2.1
  have h6 := hwP.1
  have hS0 := hT.s hi
  have hP0 := hT.p hj
  have hs : 610 + 120 * i + 120 ≤ 4500 := by omega
  unfold RetX
  generalize hQ : (fun (r : Option Value) (τ : ex_S) => r = some (.int ((K_m_june T i j k0 l n v_row).1)) ∧ frm σ τ (y + 1) (y + 17) ∧ (fun τ : ex_S => (isTr τ y A (tS T i) ((K_m_june T i j k0 l n v_row).2.1) ∧ wS (S_st (tS T i) ((K_m_june T i j k0 l n v_row).2.1))) ∧ τ.2 (y + 9) = some (.inl (0, 16, (K_m_june T i j k0 l n v_row).2.2)) ∧ (∀ q, q ≠ y + 1 → q ≠ y + 9 → τ.2 q = σ.2 q)) τ) = Q
  refine Ret.start pm_264 rfl ?_
  have fr : frm σ σ (y + 1) (y + 17) := frm.rf
  have kp : (∀ q, q ≠ y + 1 → q ≠ y + 9 → σ.2 q = σ.2 q) := fun _ _ _ => rfl
  have m0 := frm.cell fr m00 (by omega)
  have m1 := hTr
  have hM : isM _ y _ A := ⟨m0, m1⟩
  have hP := hP0
  have hS := hS0
  refine Ev.aload_n rfl rfl ?_
  refine Ev.iload_n rfl rfl ?_
  refine Ev.iload_n rfl rfl ?_
  refine Ev.iload_n rfl rfl ?_
  refine Ev.cV3 rfl rfl m0 rfl rfl (by decide) ⟨(Nat.le_refl _), (Nat.le_refl _)⟩ (m_isGoing_yes hM hT1 hw hgd hkk) ?_
  refine Ev.zeq (tgt := 31) rfl (by decide) (fun c7 => absurd c7 (by decide)) (fun c7 => ?_)
  refine Ev.aload_n rfl rfl ?_
  refine Ev.iload_n rfl rfl ?_
  refine Ev.iload rfl rfl ?_
  refine Ev.cV2 rfl rfl m0 rfl rfl (by decide) ⟨(Nat.le_refl _), (Nat.le_refl _)⟩ (m_isLearner_yes hM hT1 hw hi hl) ?_
  refine Ev.zeq (tgt := 31) rfl (by decide) (fun c17 => absurd c17 (by decide)) (fun c17 => ?_)
  refine Ev.iload rfl rfl ?_
  refine Ev.iconst (v := 0) rfl (by decide) ?_
  refine Ev.bipush (v := 12) rfl (by decide) ?_
  refine Ev.cS3 rfl rfl rfl (by decide) ⟨(Nat.le_refl _), (Nat.le_refl _)⟩ (m_in_y (K_in012 hn2)) ?_
  refine Ev.zne (tgt := 33) rfl (by decide) (fun c28 => ?_) (fun c28 => absurd c28 (by decide))
  refine Ev.aload_n rfl rfl ?_
  refine Ev.iconst (v := 0) rfl (by decide) ?_
  refine Ev.iload_n rfl rfl ?_
  refine Ev.cS2 rfl rfl rfl (by decide) ⟨(Nat.le_refl _), (Nat.le_refl _)⟩ (m_pl0_ok i) ?_
  refine Ev.sipush (v := 4360) rfl (by decide) ?_
  refine Ev.xV2u rfl rfl m0 rfl rfl (by decide) ⟨(Nat.le_refl _), (Nat.le_refl _)⟩ (m_copies_ok (s := 610 + 120 * i) (t := 4360) hM (by omega) (by omega)) (fun τ1 f1 q1 => ?_)
  have hTr : (isTr τ1 y A (tS T i) ((tS T i).2.2 0) ∧ wS (S_st (tS T i) ((tS T i).2.2 0))) := ⟨cp_tr hS hwS (by omega) q1, by rw [S_st_self]; exact hwS⟩
  have m_row := frm.cell f1 m_row (by omega)
  have kp : (∀ q, q ≠ y + 1 → q ≠ y + 9 → τ1.2 q = σ.2 q) := fun q n0 n1 => (f1.2 q (by omega)).trans (kp q n0 n1)
  have fr := fr.step f1 (by omega) (by omega)
  have m0 := frm.cell fr m00 (by omega)
  obtain ⟨⟨A1, m1, hA1, hS1⟩, hwf⟩ := id hTr
  have hM : isM _ y _ A1 := ⟨m0, m1⟩
  have hP : mP A1 (970 + 40 * j) (tP T j) := hP0.mv h6 (fun k hk => hA1 _ (by omega))
  have hS : mS A1 (610 + 120 * i) (tS T i) := hS0.mv hn16 hn5 (fun k hk => hA1 _ (by omega))
  refine Ev.aload_n rfl rfl ?_
  refine Ev.iload_n rfl rfl ?_
  refine Ev.iload_n rfl rfl ?_
  refine Ev.cV2 rfl rfl m0 rfl rfl (by decide) ⟨(Nat.le_refl _), (Nat.le_refl _)⟩ (m_sitsIn_ok hM hP hj3 h6 k0 (by omega)) ?_
  refine Ev.iconst (v := 1) rfl (by decide) ?_
  refine Ev.iload rfl rfl ?_
  refine Ev.ishl rfl ?_
  refine Ev.ior rfl ?_
  refine Ev.istore rfl rfl rfl ?_
  refine Ev.iconst (v := 0) rfl (by decide) ?_
  refine Ev.istore rfl rfl rfl ?_
  refine Ev.fg (L := [some (.ref y), none, some (.int (nI j)), some (.int (nI k0)), some (.int (nI l)), some (.int (nI n)), some (.int (((tP T j).2 k0 5) ||| ((1 : Int32) <<< ((nI l) &&& 31)))), some (.int (nI 0)), none]) ?_ (gs rfl (gn (gs rfl (gs rfl (gs rfl (gs rfl (gs rfl (gs (congrArg Value.int (rfl : (0 : Int32) = nI 0).symm) (gn gz)))))))))
  refine lp (fun (k : Nat) (z : (Nat → Int32)) => ∀ τ' : ex_S, frm σ τ' (y + 1) (y + 17) → (isTr τ' y A (tS T i) z ∧ wS (S_st (tS T i) z)) → τ'.2 (y + 9) = some (.inl (0, 16, v_row)) → (∀ q, q ≠ y + 1 → q ≠ y + 9 → τ'.2 q = σ.2 q) → Ev Γ 0 0 m_M_june 0 0 61 [some (.ref y), none, some (.int (nI j)), some (.int (nI k0)), some (.int (nI l)), some (.int (nI n)), some (.int (((tP T j).2 k0 5) ||| ((1 : Int32) <<< ((nI l) &&& 31)))), some (.int (nI k)), none] [] τ' Q) (F_m_june_61 T i j k0 l n v_row) (n) (fun k z hk hx => ?_) (n) 0 ((tS T i).2.2 0) (by omega) ?_ τ1 fr hTr m_row kp
  · skip
    intro τ' fr hTr m_row kp
    have m0 := frm.cell fr m00 (by omega)
    obtain ⟨⟨A1, m1, hA1, hS1⟩, hwf⟩ := id hTr
    have hM : isM _ y _ A1 := ⟨m0, m1⟩
    have hP : mP A1 (970 + 40 * j) (tP T j) := hP0.mv h6 (fun k hk => hA1 _ (by omega))
    have hS : mS A1 (610 + 120 * i) (tS T i) := hS0.mv hn16 hn5 (fun k hk => hA1 _ (by omega))
    refine Ev.iload rfl rfl ?_
    refine Ev.iload rfl rfl ?_
    refine Ev.jge (tgt := 135) rfl (by decide) (fun c65 => absurd (nI_lt hk (by omega)) c65) (fun c65 => ?_)
    refine Ev.aload_n rfl rfl ?_
    refine Ev.sipush (v := 4360) rfl (by decide) ?_
    refine Ev.aload_n rfl rfl ?_
    refine Ev.iload_n rfl rfl ?_
    refine Ev.iload_n rfl rfl ?_
    refine Ev.cV2 rfl rfl m0 rfl rfl (by decide) ⟨(Nat.le_refl _), (Nat.le_refl _)⟩ (m_classAt_ok hM k0) ?_
    refine Ev.iload rfl rfl ?_
    refine Ev.iload rfl rfl ?_
    refine Ev.cV4 rfl rfl m0 rfl rfl (by decide) ⟨(Nat.le_refl _), (Nat.le_refl _)⟩ (m_by_W (s := 4360) hM hS1 (by omega) hwf (hP.2 k0 (by omega)) (by omega) (hwP.2 k0 (by omega)) (hgo k0 (by omega)).1 (by show l < (tS T i).1; omega) (show inS (tS T i) (((tP T j).2 k0 5) ||| ((1 : Int32) <<< ((nI l) &&& 31))) from (inS_or hn16 (hgo k0 (by omega)).2 (inS_bit hn16 (by omega))))) ?_
    refine Ev.istore rfl rfl rfl ?_
    refine Ev.iload rfl rfl ?_
    refine Ev.aload_n rfl rfl ?_
    refine Ev.getf rfl rfl m0 rfl ?_
    refine Ev.sipush (v := 4370) rfl (by decide) ?_
    refine Ev.ialdN (k := 4360 + 10) rfl m1 (nq_to (a := 4370) (rfl : (4370 : Int32) = nI 4370) (by omega)) ⟨(by omega), by decide⟩ ?_
    rw [show A1 (4360 + 10) = (tS T i).2.2 9 8 from hS1.2.2.1 8 (by decide)]
    refine Ev.jlt (tgt := 129) rfl (by decide) (fun c97 => ?_) (fun c97 => ?_)
    · skip
      refine Ev.iinc (d := 1) rfl rfl rfl (by decide) rfl ?_
      refine Ev.goto (tgt := 61) rfl (by decide) ?_
      have hF : (F_m_june_61 T i j k0 l n v_row) k z = z := by
        unfold F_m_june_61
        rw [if_pos c97]
      rw [hF] at hx
      exact (hx τ' fr hTr m_row kp).fg (gs rfl (gn (gs rfl (gs rfl (gs rfl (gs rfl (gs rfl (gs (congrArg Value.int (show nI (k + 1) = (nI k) + (1 : Int32) from (nq_to (a := k + 1) (nq_add (a := k) (b := 1) rfl (rfl : (1 : Int32) = nI 1)) (by omega)).symm)) (gn gz)))))))))
    · skip
      refine Ev.aload_n rfl rfl ?_
      refine Ev.sipush (v := 4360) rfl (by decide) ?_
      refine Ev.iload rfl rfl ?_
      refine Ev.cV2 rfl rfl m0 rfl rfl (by decide) ⟨(Nat.le_refl _), (Nat.le_refl _)⟩ (m_step_ok (s := 4360) hM hS1 (by omega) hwf l (by show l < (tS T i).1; omega)) ?_
      refine Ev.bipush (v := 11) rfl (by decide) ?_
      refine Ev.jge (tgt := 129) rfl (by decide) (fun c111 => ?_) (fun c111 => ?_)
      · skip
        refine Ev.iinc (d := 1) rfl rfl rfl (by decide) rfl ?_
        refine Ev.goto (tgt := 61) rfl (by decide) ?_
        have hF : (F_m_june_61 T i j k0 l n v_row) k z = z := by
          unfold F_m_june_61
          rw [if_neg c97]
          rw [if_neg c111]
        rw [hF] at hx
        exact (hx τ' fr hTr m_row kp).fg (gs rfl (gn (gs rfl (gs rfl (gs rfl (gs rfl (gs rfl (gs (congrArg Value.int (show nI (k + 1) = (nI k) + (1 : Int32) from (nq_to (a := k + 1) (nq_add (a := k) (b := 1) rfl (rfl : (1 : Int32) = nI 1)) (by omega)).symm)) (gn gz)))))))))
      · skip
        refine Ev.aload_n rfl rfl ?_
        refine Ev.getf rfl rfl m0 rfl ?_
        refine Ev.sipush (v := 4373) rfl (by decide) ?_
        refine Ev.iload rfl rfl ?_
        refine Ev.iadd rfl ?_
        refine Ev.dup2 rfl rfl rfl ?_
        refine Ev.ialdN (k := 4360 + 13 + l) rfl m1 (nq_to (a := 4373 + l) (nq_add (a := 4373) (b := l) (rfl : (4373 : Int32) = nI 4373) rfl) (by omega)) ⟨(by omega), by decide⟩ ?_
        rw [show A1 (4360 + 13 + l) = z l from (hS1.2.2.2.1 l (by show l < (tS T i).1; omega)).1]
        refine Ev.iconst (v := 1) rfl (by decide) ?_
        refine Ev.iadd rfl ?_
        refine Ev.iastE (k := 4360 + 13 + l) rfl m1 (nq_to (a := 4373 + l) (nq_add (a := 4373) (b := l) (rfl : (4373 : Int32) = nI 4373) rfl) (by omega)) ⟨(by omega), by decide⟩ (fun τ2 f1 q1 => ?_)
        have hTr := tr_upd hA1 hS1 hn16 hn5 (by omega) q1
        have hTr := (⟨hTr, wS_up1 hwf hn16 hl c111⟩ : (isTr τ2 y A (tS T i) (upd z l ((z l) + (1 : Int32))) ∧ wS (S_st (tS T i) (upd z l ((z l) + (1 : Int32))))))
        have m_row := frm.cell f1 m_row (by omega)
        have kp : (∀ q, q ≠ y + 1 → q ≠ y + 9 → τ2.2 q = σ.2 q) := fun q n0 n1 => (f1.2 q (by omega)).trans (kp q n0 n1)
        have fr := fr.step f1 (by omega) (by omega)
        have m0 := frm.cell fr m00 (by omega)
        obtain ⟨⟨A1, m1, hA1, hS1⟩, hwf⟩ := id hTr
        have hM : isM _ y _ A1 := ⟨m0, m1⟩
        have hP : mP A1 (970 + 40 * j) (tP T j) := hP0.mv h6 (fun k hk => hA1 _ (by omega))
        have hS : mS A1 (610 + 120 * i) (tS T i) := hS0.mv hn16 hn5 (fun k hk => hA1 _ (by omega))
        refine Ev.iinc (d := 1) rfl rfl rfl (by decide) rfl ?_
        refine Ev.goto (tgt := 61) rfl (by decide) ?_
        have hF : (F_m_june_61 T i j k0 l n v_row) k z = (upd z l ((z l) + (1 : Int32))) := by
          unfold F_m_june_61
          rw [if_neg c97]
          rw [if_pos c111]
        rw [hF] at hx
        exact (hx τ2 fr hTr m_row kp).fg (gs rfl (gn (gs rfl (gs rfl (gs rfl (gs rfl (gs rfl (gs (congrArg Value.int (show nI (k + 1) = (nI k) + (1 : Int32) from (nq_to (a := k + 1) (nq_add (a := k) (b := 1) rfl (rfl : (1 : Int32) = nI 1)) (by omega)).symm)) (gn gz)))))))))
  · skip
    intro τ' fr hTr m_row kp
    have m0 := frm.cell fr m00 (by omega)
    obtain ⟨⟨A1, m1, hA1, hS1⟩, hwf⟩ := id hTr
    have hM : isM _ y _ A1 := ⟨m0, m1⟩
    have hP : mP A1 (970 + 40 * j) (tP T j) := hP0.mv h6 (fun k hk => hA1 _ (by omega))
    have hS : mS A1 (610 + 120 * i) (tS T i) := hS0.mv hn16 hn5 (fun k hk => hA1 _ (by omega))
    refine Ev.iload rfl rfl ?_
    refine Ev.iload rfl rfl ?_
    refine Ev.jge (tgt := 135) rfl (by decide) (fun c65 => ?_) (fun c65 => absurd c65 (nI_nlt (Nat.le_refl _) (by omega)))
    refine Ev.aload_n rfl rfl ?_
    refine Ev.sipush (v := 4360) rfl (by decide) ?_
    refine Ev.iload rfl rfl ?_
    refine Ev.cV2 rfl rfl m0 rfl rfl (by decide) ⟨(Nat.le_refl _), (Nat.le_refl _)⟩ (m_step_ok (s := 4360) hM hS1 (by omega) hwf l (by show l < (tS T i).1; omega)) ?_
    refine Ev.iret (ty := .int) rfl rfl rfl (Nat.le_refl _) (Nat.le_refl _) ?_
    have hK : (K_m_june T i j k0 l n v_row) = ((S_st (tS T i) (fo (F_m_june_61 T i j k0 l n v_row) (n) 0 ((tS T i).2.2 0))).2.2 0 l, (fo (F_m_june_61 T i j k0 l n v_row) (n) 0 ((tS T i).2.2 0)), v_row) := by rfl
    rw [← hQ]
    dsimp only
    rw [hK]
    exact ⟨rfl, fr, hTr, m_row, kp⟩
def K_m_both (S : Sch) (P P2 : Pln) (v_row : Nat → Int32) : Int32 × (Nat → Int32) × (Nat → Int32) := ((K_inAll (S_st S (S.2.2 0)) P) + (K_inAll (S_st S ((K_m_year S P (S.2.2 0) v_row).1)) P2), (K_m_year S P (S.2.2 0) v_row).1, (K_m_year S P (S.2.2 0) v_row).2)
theorem m_both_ok (hM0 : isM σ y g A) (m_row : σ.2 (y + 9) = some (.inl (0, 16, v_row))) {s : Nat} (hS0 : mS A s S) (hs : s + 120 ≤ 4360) (hwS : wS S) {p2 : Nat} {P2 : Pln} (hP0 : mP A (970 + 40 * p) P) (hp : p < 3) (hwP : wP P) (hgo : goP S P) (hP20 : mP A (970 + 40 * p2) P2) (hp2 : p2 < 3) (hwP2 : wP P2) (hgo2 : goP S P2) : RetX Γ m_M_both [(.ref y), (.int (nI s)), (.int (nI p)), (.int (nI p2))] σ (y + 1) (y + 17) (some (.int ((K_m_both S P P2 v_row).1))) (fun τ => (isTr τ y A S ((K_m_both S P P2 v_row).2.1) ∧ wS (S_st S ((K_m_both S P P2 v_row).2.1))) ∧ τ.2 (y + 9) = some (.inl (0, 16, (K_m_both S P P2 v_row).2.2)) ∧ (∀ q, q ≠ y + 1 → q ≠ y + 9 → τ.2 q = σ.2 q)) := by
  obtain ⟨m00, hTr⟩ := id hM0
  have hn16 := hwS.1
  have hn5 := hwS.2.1
  have h6 := hwP.1
  have h62 := hwP2.1
  unfold RetX
  generalize hQ : (fun (r : Option Value) (τ : ex_S) => r = some (.int ((K_m_both S P P2 v_row).1)) ∧ frm σ τ (y + 1) (y + 17) ∧ (fun τ : ex_S => (isTr τ y A S ((K_m_both S P P2 v_row).2.1) ∧ wS (S_st S ((K_m_both S P P2 v_row).2.1))) ∧ τ.2 (y + 9) = some (.inl (0, 16, (K_m_both S P P2 v_row).2.2)) ∧ (∀ q, q ≠ y + 1 → q ≠ y + 9 → τ.2 q = σ.2 q)) τ) = Q
  refine Ret.start pm_261 rfl ?_
  have fr : frm σ σ (y + 1) (y + 17) := frm.rf
  have kp : (∀ q, q ≠ y + 1 → q ≠ y + 9 → σ.2 q = σ.2 q) := fun _ _ _ => rfl
  have m0 := frm.cell fr m00 (by omega)
  have m1 := hTr
  have hM : isM _ y _ A := ⟨m0, m1⟩
  have hP := hP0
  have hP2 := hP20
  have hS := hS0
  refine Ev.aload_n rfl rfl ?_
  refine Ev.iload_n rfl rfl ?_
  refine Ev.sipush (v := 4360) rfl (by decide) ?_
  refine Ev.xV2u rfl rfl m0 rfl rfl (by decide) ⟨(Nat.le_refl _), (Nat.le_refl _)⟩ (m_copies_ok (s := s) (t := 4360) hM (by omega) (by omega)) (fun τ1 f1 q1 => ?_)
  have hTr : (isTr τ1 y A S (S.2.2 0) ∧ wS (S_st S (S.2.2 0))) := ⟨cp_tr hS hwS (by omega) q1, by rw [S_st_self]; exact hwS⟩
  have m_row := frm.cell f1 m_row (by omega)
  have kp : (∀ q, q ≠ y + 1 → q ≠ y + 9 → τ1.2 q = σ.2 q) := fun q n0 n1 => (f1.2 q (by omega)).trans (kp q n0 n1)
  have fr := fr.step f1 (by omega) (by omega)
  have m0 := frm.cell fr m00 (by omega)
  obtain ⟨⟨A1, m1, hA1, hS1⟩, hwf⟩ := id hTr
  have hM : isM _ y _ A1 := ⟨m0, m1⟩
  have hP : mP A1 (970 + 40 * p) P := hP0.mv h6 (fun k hk => hA1 _ (by omega))
  have hP2 : mP A1 (970 + 40 * p2) P2 := hP20.mv h62 (fun k hk => hA1 _ (by omega))
  refine Ev.aload_n rfl rfl ?_
  refine Ev.sipush (v := 4360) rfl (by decide) ?_
  refine Ev.iload_n rfl rfl ?_
  refine Ev.cV2 rfl rfl m0 rfl rfl (by decide) ⟨(Nat.le_refl _), (Nat.le_refl _)⟩ (m_inAll_ok (s := 4360) hM hS1 (by omega) hwf hP hp hwP (goP_st hgo)) ?_
  refine Ev.istore rfl rfl rfl ?_
  refine Ev.aload_n rfl rfl ?_
  refine Ev.sipush (v := 4360) rfl (by decide) ?_
  refine Ev.iload_n rfl rfl ?_
  refine Ev.xV2u rfl rfl m0 rfl rfl (by decide) ⟨(Nat.le_refl _), (Nat.le_refl _)⟩ (m_year_ok m0 hTr.1 m_row hwf hP0 hp hwP hgo hn16 hn5) (fun τ2 f1 q1 => ?_)
  obtain ⟨hTr, m_row, k1⟩ := q1
  have hTr : (isTr τ2 y A S ((K_m_year S P (S.2.2 0) v_row).1) ∧ wS (S_st S ((K_m_year S P (S.2.2 0) v_row).1))) := ⟨hTr, wS_yr hwf hwS.1 v_row⟩
  have kp : (∀ q, q ≠ y + 1 → q ≠ y + 9 → τ2.2 q = σ.2 q) := fun q n0 n1 => (k1 q (by omega) (by omega)).trans (kp q n0 n1)
  have fr := fr.step f1 (by omega) (by omega)
  have m0 := frm.cell fr m00 (by omega)
  obtain ⟨⟨A1, m1, hA1, hS1⟩, hwf⟩ := id hTr
  have hM : isM _ y _ A1 := ⟨m0, m1⟩
  have hP : mP A1 (970 + 40 * p) P := hP0.mv h6 (fun k hk => hA1 _ (by omega))
  have hP2 : mP A1 (970 + 40 * p2) P2 := hP20.mv h62 (fun k hk => hA1 _ (by omega))
  refine Ev.iload rfl rfl ?_
  refine Ev.aload_n rfl rfl ?_
  refine Ev.sipush (v := 4360) rfl (by decide) ?_
  refine Ev.iload_n rfl rfl ?_
  refine Ev.cV2 rfl rfl m0 rfl rfl (by decide) ⟨(Nat.le_refl _), (Nat.le_refl _)⟩ (m_inAll_ok (s := 4360) hM hS1 (by omega) hwf hP2 hp2 hwP2 (goP_st hgo2)) ?_
  refine Ev.iadd rfl ?_
  refine Ev.iret (ty := .int) rfl rfl rfl (Nat.le_refl _) (Nat.le_refl _) ?_
  have hK : (K_m_both S P P2 v_row) = ((K_inAll (S_st S (S.2.2 0)) P) + (K_inAll (S_st S ((K_m_year S P (S.2.2 0) v_row).1)) P2), (K_m_year S P (S.2.2 0) v_row).1, (K_m_year S P (S.2.2 0) v_row).2) := by rfl
  rw [← hQ]
  dsimp only
  rw [hK]
  exact ⟨rfl, fr, hTr, m_row, kp⟩
end
end
