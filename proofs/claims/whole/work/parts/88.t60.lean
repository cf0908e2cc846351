/-! Texts (reference): where a text is kept; how its row begins. -/
noncomputable section
/-- a text was read: no tape, the fault, its place -/
def T_tx (T : Tol) (f p : Int32) : Tol := (0, f, p, tSn T, tPn T, tB T, tS T, tP T)
theorem tx_mT {A A1 : Nat → Int32} {T : Tol} {f p : Int32} (h : mT A 0 T) (hw : wT T) (hA : ∀ q, q ≠ 2 → q ≠ 3 → q ≠ 4 → A1 q = A q) (h2 : A1 2 = 0) (h3 : A1 3 = f) (h4 : A1 4 = p) : mT A1 0 (T_tx T f p) := by
  obtain ⟨a, b, c, d, e, g, i, j⟩ := h
  have hw1 := hw.2.1
  have hw2 := hw.2.2.1
  exact ⟨(hA _ (by omega) (by omega) (by omega)).trans a, (hA _ (by omega) (by omega) (by omega)).trans b, h2, h3, h4, fun k hk => (hA _ (by omega) (by omega) (by omega)).trans (g k hk), fun k hk => (i k hk).mv (hw.2.2.2.1 k hk).1 (hw.2.2.2.1 k hk).2.1 (fun q hq => hA _ (by omega) (by omega) (by omega)), fun k hk => (j k hk).mv (hw.2.2.2.2 k hk).1 (fun q hq => hA _ (by omega) (by omega) (by omega))⟩
theorem tx_wT {T : Tol} {f p : Int32} (hw : wT T) : wT (T_tx T f p) := ⟨Nat.zero_le _, hw.2.1, hw.2.2.1, hw.2.2.2.1, hw.2.2.2.2⟩
def cnq (T : Tol) (n : Nat) : Nat := if tPn T < n + 1 then n + 1 else tPn T
/-- the copy of a row into the reference's own -/
def cpA (A rd : Nat → Int32) (pl i : Nat) : Nat → Int32 := fun q => if pl ≤ q ∧ q < pl + i then rd (q - pl) else A q
theorem cpA_0 {A rd : Nat → Int32} {pl : Nat} : cpA A rd pl 0 = A := funext fun q => if_neg (by omega)
theorem cpA_up {A rd : Nat → Int32} {pl i : Nat} : upd (cpA A rd pl i) (pl + i) (rd i) = cpA A rd pl (i + 1) := by
  refine funext fun q => ?_
  by_cases c : q = pl + i
  · subst c
    rw [pk_us]
    unfold cpA
    rw [if_pos ⟨by omega, by omega⟩, show pl + i - pl = i by omega]
  · rw [pk_un c]
    unfold cpA
    by_cases d : pl ≤ q ∧ q < pl + i
    · rw [if_pos d, if_pos ⟨d.1, by omega⟩]
    · rw [if_neg d, if_neg (by omega)]
theorem cpA_in {A rd : Nat → Int32} {pl i q : Nat} (h : q < i) : cpA A rd pl i (pl + q) = rd q := by
  unfold cpA
  rw [if_pos ⟨by omega, by omega⟩, show pl + q - pl = q by omega]
theorem cpA_out {A rd : Nat → Int32} {pl i q : Nat} (h : q < pl ∨ pl + i ≤ q) : cpA A rd pl i q = A q := if_neg (by omega)
theorem putS_mT {A A3 rd : Nat → Int32} {T : Tol} {S' : Sch} {n : Nat} (h : mT A 0 T) (hw : wT T) (h0 : A3 0 = nI (cnt T n)) (hin : ∀ q, q < 120 → A3 (610 + 120 * n + q) = rd q) (hE : ∀ q, q ≠ 0 → q < 610 + 120 * n ∨ 610 + 120 * n + 120 ≤ q → q < 4360 → A3 q = A q) (hS : mS rd 0 S') (hS' : wS S') (hn : n < 3) (hnc : n ≤ tSn T) : mT A3 0 (K_putS T n S') := by
  obtain ⟨a, b, c, d, f, g, i, j⟩ := h
  have hw1 := hw.2.1
  have hw2 := hw.2.2.1
  refine ⟨h0, (hE _ (by omega) (by omega) (by omega)).trans b, (hE _ (by omega) (by omega) (by omega)).trans c, (hE _ (by omega) (by omega) (by omega)).trans d, (hE _ (by omega) (by omega) (by omega)).trans f, fun k hk => (hE _ (by omega) (by omega) (by omega)).trans (g k hk), fun k hk => ?_, fun k hk => ?_⟩
  · show mS _ (0 + 610 + 120 * k) (if k = n then S' else tS T k)
    by_cases e : k = n
    · subst e
      rw [if_pos rfl]
      exact hS.mv hS'.1 hS'.2.1 (fun q hq => by rw [show 0 + 610 + 120 * k + q = 610 + 120 * k + q by omega, Nat.zero_add]; exact hin q hq)
    · rw [if_neg e]
      have hk1 : k < cnt T n := hk
      have hk' : k < tSn T := by
        unfold cnt at hk1
        by_cases c1 : tSn T < n + 1
        · rw [if_pos c1] at hk1; omega
        · rw [if_neg c1] at hk1; exact hk1
      exact (i k hk').mv (hw.2.2.2.1 k hk').1 (hw.2.2.2.1 k hk').2.1 (fun q hq => hE _ (by omega) (by omega) (by omega))
  · have hk' : k < tPn T := hk
    exact (j k hk').mv (hw.2.2.2.2 k hk').1 (fun q hq => hE _ (by omega) (by omega) (by omega))
theorem putP_mT {A A3 rd : Nat → Int32} {T : Tol} {P' : Pln} {n : Nat} (h : mT A 0 T) (hw : wT T) (h0 : A3 1 = nI (cnq T n)) (hin : ∀ q, q < 40 → A3 (970 + 40 * n + q) = rd q) (hE : ∀ q, q ≠ 1 → q < 970 + 40 * n ∨ 970 + 40 * n + 40 ≤ q → q < 4360 → A3 q = A q) (hP : mP rd 0 P') (hP' : wP P') (hn : n < 3) (hnc : n ≤ tPn T) : mT A3 0 (K_putP T n P') := by
  obtain ⟨a, b, c, d, f, g, i, j⟩ := h
  have hw1 := hw.2.1
  have hw2 := hw.2.2.1
  refine ⟨(hE _ (by omega) (by omega) (by omega)).trans a, h0, (hE _ (by omega) (by omega) (by omega)).trans c, (hE _ (by omega) (by omega) (by omega)).trans d, (hE _ (by omega) (by omega) (by omega)).trans f, fun k hk => (hE _ (by omega) (by omega) (by omega)).trans (g k hk), fun k hk => ?_, fun k hk => ?_⟩
  · have hk' : k < tSn T := hk
    exact (i k hk').mv (hw.2.2.2.1 k hk').1 (hw.2.2.2.1 k hk').2.1 (fun q hq => hE _ (by omega) (by omega) (by omega))
  · show mP _ (0 + 970 + 40 * k) (if k = n then P' else tP T k)
    by_cases e : k = n
    · subst e
      rw [if_pos rfl]
      exact hP.mv hP'.1 (fun q hq => by rw [show 0 + 970 + 40 * k + q = 970 + 40 * k + q by omega, Nat.zero_add]; exact hin q hq)
    · rw [if_neg e]
      have hk1 : k < cnq T n := hk
      have hk' : k < tPn T := by
        unfold cnq at hk1
        by_cases c1 : tPn T < n + 1
        · rw [if_pos c1] at hk1; omega
        · rw [if_neg c1] at hk1; exact hk1
      exact (j k hk').mv (hw.2.2.2.2 k hk').1 (fun q hq => hE _ (by omega) (by omega) (by omega))
theorem putP_wT {T : Tol} {P' : Pln} {n : Nat} (hw : wT T) (hP' : wP P') (hn : n < 3) (hnc : n ≤ tPn T) : wT (K_putP T n P') := by
  refine ⟨hw.1, hw.2.1, ?_, hw.2.2.2.1, fun k hk => ?_⟩
  · show cnq T n ≤ 3
    have := hw.2.2.1
    unfold cnq
    by_cases c1 : tPn T < n + 1
    · rw [if_pos c1]; omega
    · rw [if_neg c1]; exact this
  · show wP (if k = n then P' else tP T k)
    by_cases e : k = n
    · rw [if_pos e]; exact hP'
    · rw [if_neg e]
      have hk1 : k < cnq T n := hk
      unfold cnq at hk1
      by_cases c1 : tPn T < n + 1
      · rw [if_pos c1] at hk1; exact hw.2.2.2.2 k (by omega)
      · rw [if_neg c1] at hk1; exact hw.2.2.2.2 k hk1
/-- no fault, no place -/
def Rz (s : Rs) : Prop := Rf s = 0 → Rp s = -1
section
variable {U : Nat → Nat} {n : Nat} {s : Rs}
theorem nst_z {g : Bool} (h : Rz s) : Rz (nst U n g s) := by
  unfold nst
  split
  · exact h
  · split
    · exact h
    · exact fun c => absurd (show (2 : Nat) = 0 from c) (by decide)
theorem rnt_z {k a : Nat} (hk : 0 < k) (h : Rz s) : Rz (rnt s k a) := fun c => absurd c (rnt_f0 hk)
theorem rel_z (h : Rz s) : Rz (rel U n s) := by
  unfold rel
  split
  · exact h
  · exact h
theorem chn_z {k L : Nat} (h : Rz s) : ∀ j, Rz (chn U n k L s j)
  | 0 => h
  | j + 1 => nst_z (chn_z h j)
theorem chs_z (h : Rz s) : ∀ j, Rz (chs U n s j)
  | 0 => h
  | j + 1 => nst_z (chs_z h j)
theorem lnS_z {k : Nat} {S : Sch} (h : Rz s) : Rz (lnS U n k S s) := by
  unfold lnS lstS
  split
  · exact rnt_z (by decide) h
  · exact h
theorem lpS_z {k : Nat} {P : Pln} (h : Rz s) : Rz (lpS U n k P s) := by
  unfold lpS lstP
  split
  · exact rnt_z (by decide) h
  · split
    · exact rnt_z (by decide) h
    · exact h
theorem stS_z {q : Rs × Sch} (h : Rz q.1) : Rz (stS U n q).1 := by
  unfold stS
  split
  · exact rel_z (chn_z (lnS_z h) _)
  · exact h
theorem stP_z {q : Rs × Pln} (h : Rz q.1) : Rz (stP U n q).1 := by
  unfold stP
  split
  · refine rel_z ?_
    unfold lpE
    split
    · exact chs_z (lpS_z h) _
    · exact chn_z (lpS_z h) _
  · exact h
theorem qS_z {S : Sch} : ∀ i, Rz (qS U n S i).1
  | 0 => fun _ => rfl
  | i + 1 => stS_z (qS_z i)
theorem qP_z {P : Pln} : ∀ i, Rz (qP U n P i).1
  | 0 => fun _ => rfl
  | i + 1 => stP_z (qP_z i)
def txF (s : Rs) : Nat := if Rw s = true then 1 else Rf s
def txQ (U : Nat → Nat) (n : Nat) (s : Rs) : Int32 := if Rw s = true then nI (tS0 U n (Re s)) else Rp s
theorem txF_0 (h : txF s = 0) : Rw s = false ∧ Rf s = 0 := by
  unfold txF at h
  cases hx : Rw s
  · rw [hx, if_neg (fun h => nomatch h)] at h
    exact ⟨rfl, h⟩
  · rw [hx, if_pos rfl] at h
    exact absurd h (by decide)
end
section
variable {Γ : ex_G} {σ : ex_S} {x q a p y : Nat} {S : Sch} {T : Tol} {P : Pln} {g A : Nat → Int32}
variable {T : Tol}
theorem m_freeP_yes (hM : isM σ y g A) (hT : mT A 0 T) (hw : wT T) {w : Int32} {n : Nat} (h : plc w (tPn T) n) : RetV Γ m_M_isFree [.ref y, .int 1, .int w] σ (.int (1)) := by
  obtain ⟨m0, m1⟩ := id hM
  unfold RetV
  generalize hQ : (fun (r : Option Value) (σ' : ex_S) => r = some ((.int (1)) : Value) ∧ σ' = σ) = Q
  refine Ret.start pm_188 rfl ?_
  have hc := hw.2.2.1
  have a0 : A 1 = nI (tPn T) := hT.2.1
  rcases h with ⟨rfl, h3, e⟩ | ⟨rfl, h3⟩
  · skip
    refine Ev.iload_n rfl rfl ?_
    refine Ev.iconst (v := (-1)) rfl (by decide) ?_
    refine Ev.icmp_ne (tgt := 23) rfl (by decide) (fun c2 => absurd rfl c2) (fun c2 => ?_)
    refine Ev.aload_n rfl rfl ?_
    refine Ev.getf rfl rfl (by assumption) rfl ?_
    refine Ev.iload_n rfl rfl ?_
    refine Ev.ialdN (k := 1) rfl (by assumption) rfl ⟨(by omega), by decide⟩ ?_
    refine Ev.iconst (v := 3) rfl (by decide) ?_
    refine Ev.icmp_ge (tgt := 19) rfl (by decide) (fun c12 => absurd (a0 ▸ c12) (Int32.not_le.mpr (nI_lt (b := 3) h3 (by omega)))) (fun c12 => ?_)
    refine Ev.iconst (v := 1) rfl (by decide) ?_
    refine Ev.goto (tgt := 29) rfl (by decide) ?_
    refine Ev.iret (ty := .boolean) rfl rfl rfl (Nat.le_refl _) (Nat.le_refl _) ?_
    rw [← hQ]
    exact ⟨rfl, rfl⟩
  · skip
    refine Ev.iload_n rfl rfl ?_
    refine Ev.iconst (v := (-1)) rfl (by decide) ?_
    refine Ev.icmp_ne (tgt := 23) rfl (by decide) (fun c2 => ?_) (fun c2 => absurd c2 (nI_m1 (by omega)))
    refine Ev.aload_n rfl rfl ?_
    refine Ev.iload_n rfl rfl ?_
    refine Ev.iload_n rfl rfl ?_
    refine Ev.cV2 rfl rfl (by assumption) rfl rfl (by decide) ⟨(Nat.le_refl _), (Nat.le_refl _)⟩ (m_isOf1_yes hM hT hw h3) ?_
    refine Ev.iret (ty := .boolean) rfl rfl rfl (Nat.le_refl _) (Nat.le_refl _) ?_
    rw [← hQ]
    exact ⟨rfl, rfl⟩
theorem m_freeP_no (hM : isM σ y g A) (hT : mT A 0 T) (hw : wT T) {w : Int32} (h : plx w (tPn T)) : RetV Γ m_M_isFree [.ref y, .int 1, .int w] σ (.int (0)) := by
  obtain ⟨m0, m1⟩ := id hM
  unfold RetV
  generalize hQ : (fun (r : Option Value) (σ' : ex_S) => r = some ((.int (0)) : Value) ∧ σ' = σ) = Q
  refine Ret.start pm_188 rfl ?_
  have hc := hw.2.2.1
  have a0 : A 1 = nI (tPn T) := hT.2.1
  rcases h with ⟨rfl, h3⟩ | ⟨hm, h⟩
  · skip
    refine Ev.iload_n rfl rfl ?_
    refine Ev.iconst (v := (-1)) rfl (by decide) ?_
    refine Ev.icmp_ne (tgt := 23) rfl (by decide) (fun c2 => absurd rfl c2) (fun c2 => ?_)
    refine Ev.aload_n rfl rfl ?_
    refine Ev.getf rfl rfl (by assumption) rfl ?_
    refine Ev.iload_n rfl rfl ?_
    refine Ev.ialdN (k := 1) rfl (by assumption) rfl ⟨(by omega), by decide⟩ ?_
    refine Ev.iconst (v := 3) rfl (by decide) ?_
    refine Ev.icmp_ge (tgt := 19) rfl (by decide) (fun c12 => ?_) (fun c12 => absurd (a0.symm ▸ nI_le (a := 3) h3 (by omega)) c12)
    refine Ev.iconst (v := 0) rfl (by decide) ?_
    refine Ev.goto (tgt := 29) rfl (by decide) ?_
    refine Ev.iret (ty := .boolean) rfl rfl rfl (Nat.le_refl _) (Nat.le_refl _) ?_
    rw [← hQ]
    exact ⟨rfl, rfl⟩
  · skip
    refine Ev.iload_n rfl rfl ?_
    refine Ev.iconst (v := (-1)) rfl (by decide) ?_
    refine Ev.icmp_ne (tgt := 23) rfl (by decide) (fun c2 => ?_) (fun c2 => absurd c2 hm)
    refine Ev.aload_n rfl rfl ?_
    refine Ev.iload_n rfl rfl ?_
    refine Ev.iload_n rfl rfl ?_
    refine Ev.cV2 rfl rfl (by assumption) rfl rfl (by decide) ⟨(Nat.le_refl _), (Nat.le_refl _)⟩ (m_isOf1_no hM hT hw h) ?_
    refine Ev.iret (ty := .boolean) rfl rfl rfl (Nat.le_refl _) (Nat.le_refl _) ?_
    rw [← hQ]
    exact ⟨rfl, rfl⟩
theorem m_keepsP_ok (m0 : σ.2 y = some (.inr (.inr (10, mo y g)))) (m1 : σ.2 (y + 1) = some (.inl (0, 4500, A))) (a0 : A 1 = nI (tPn T)) (hc : tPn T ≤ 3) {w : Int32} {n : Nat} (hp : plc w (tPn T) n) : RetX Γ m_M_keeps [.ref y, .int 1, .int w] σ (y + 1) (y + 2) (some (.int (nI n))) (fun τ => ∃ A2, τ.2 (y + 1) = some (.inl (0, 4500, A2)) ∧ A2 1 = nI (cnq T n) ∧ ∀ q, q ≠ 1 → A2 q = A q) := by
  unfold RetX
  generalize hQ : (fun (r : Option Value) (τ : ex_S) => r = some (.int (nI n)) ∧ frm σ τ (y + 1) (y + 2) ∧ (fun τ : ex_S => ∃ A2, τ.2 (y + 1) = some (.inl (0, 4500, A2)) ∧ A2 1 = nI (cnq T n) ∧ ∀ q, q ≠ 1 → A2 q = A q) τ) = Q
  refine Ret.start pm_189 rfl ?_
  rcases hp with ⟨rfl, h3, rfl⟩ | ⟨rfl, h3⟩
  · refine Ev.iload_n rfl rfl ?_
    refine Ev.iconst (v := (-1)) rfl (by decide) ?_
    refine Ev.icmp_eq (tgt := 7) rfl (by decide) (fun c2 => ?_) (fun c2 => absurd rfl c2)
    refine Ev.aload_n rfl rfl ?_
    refine Ev.getf rfl rfl m0 rfl ?_
    refine Ev.iload_n rfl rfl ?_
    refine Ev.dup2 rfl rfl rfl ?_
    refine Ev.ialdN (k := 1) rfl m1 rfl ⟨(by decide), by decide⟩ ?_
    refine Ev.iconst (v := 1) rfl (by decide) ?_
    refine Ev.iadd rfl ?_
    have e1 : A 1 + (1 : Int32) = nI (tPn T + 1) := by rw [a0]; exact nq_add (a := tPn T) (b := 1) rfl rfl
    rw [e1]
    refine Ev.iastE (k := 1) rfl m1 rfl ⟨(by decide), by decide⟩ (fun τ1 f1 q1 => ?_)
    have m0' := frm.cell f1 m0 (by omega)
    refine Ev.aload_n rfl rfl ?_
    refine Ev.getf rfl rfl m0' rfl ?_
    refine Ev.iload_n rfl rfl ?_
    refine Ev.ialdN (k := 1) rfl q1 rfl ⟨(by decide), by decide⟩ ?_
    rw [show upd A 1 (nI (tPn T + 1)) 1 = nI (tPn T + 1) from pk_us]
    refine Ev.iconst (v := 1) rfl (by decide) ?_
    refine Ev.isub rfl ?_
    have e2 : nI (tPn T + 1) - (1 : Int32) = nI (tPn T) := nq_sub (a := tPn T + 1) (b := 1) rfl rfl (by omega)
    rw [e2]
    refine Ev.iret (ty := .int) rfl rfl rfl (Nat.le_refl _) (Nat.le_refl _) ?_
    rw [← hQ]
    refine ⟨rfl, f1.mono (by omega) (by omega), _, q1, ?_, fun q hq => pk_un hq⟩
    unfold cnq
    rw [if_pos (by omega)]
    exact pk_us
  · refine Ev.iload_n rfl rfl ?_
    refine Ev.iconst (v := (-1)) rfl (by decide) ?_
    refine Ev.icmp_eq (tgt := 7) rfl (by decide) (fun c2 => absurd c2 (nI_m1 (by omega))) (fun c2 => ?_)
    refine Ev.iload_n rfl rfl ?_
    refine Ev.iret (ty := .int) rfl rfl rfl (Nat.le_refl _) (Nat.le_refl _) ?_
    rw [← hQ]
    refine ⟨rfl, frm.rf, _, m1, ?_, fun q hq => rfl⟩
    unfold cnq
    rw [if_neg (by omega)]
    exact a0
theorem m_size0_ok : RetV Γ m_M_sizeOf [.int 0] σ (.int 120) := by
  unfold RetV
  generalize hQ : ((fun (r : Option Value) (σ' : ex_S) => r = some (.int 120) ∧ σ' = σ)) = Q
  refine Ret.start pm_186 rfl ?_
  refine Ev.iload_n rfl rfl ?_
  refine Ev.zne (tgt := 9) rfl (by decide) (fun c1 => absurd (by decide) c1) (fun c1 => ?_)
  refine Ev.bipush (v := 120) rfl (by decide) ?_
  refine Ev.goto (tgt := 11) rfl (by decide) ?_
  refine Ev.iret (ty := .int) rfl rfl rfl (Nat.le_refl _) (Nat.le_refl _) ?_
  rw [← hQ]
  exact ⟨rfl, rfl⟩
theorem m_size1_ok : RetV Γ m_M_sizeOf [.int 1] σ (.int 40) := by
  unfold RetV
  generalize hQ : ((fun (r : Option Value) (σ' : ex_S) => r = some (.int 40) ∧ σ' = σ)) = Q
  refine Ret.start pm_186 rfl ?_
  refine Ev.iload_n rfl rfl ?_
  refine Ev.zne (tgt := 9) rfl (by decide) (fun c1 => ?_) (fun c1 => absurd c1 (by decide))
  refine Ev.bipush (v := 40) rfl (by decide) ?_
  refine Ev.iret (ty := .int) rfl rfl rfl (Nat.le_refl _) (Nat.le_refl _) ?_
  rw [← hQ]
  exact ⟨rfl, rfl⟩
def bgF : Nat → Int32 := fun q => if q = 2 then 15 else if q = 4 then 1 else if q = 5 then 15 else if q = 6 then 9 else if q = 9 then 10 else if q = 10 then 50 else if q = 12 then 100 else 0
theorem bgF_w {f : Nat → Int32} (h : ∀ q, q < 120 → f q = 0) : ∀ q, q < 120 → upd (upd (upd (upd (upd (upd (upd f 2 15) 4 1) 5 15) 6 9) 9 10) 10 50) 12 100 q = bgF q := by
  intro q hq
  by_cases a : q = 12
  · subst a; rfl
  rw [pk_un a]
  by_cases b : q = 10
  · subst b; rfl
  rw [pk_un b]
  by_cases c : q = 9
  · subst c; rfl
  rw [pk_un c]
  by_cases d : q = 6
  · subst d; rfl
  rw [pk_un d]
  by_cases e : q = 5
  · subst e; rfl
  rw [pk_un e]
  by_cases g : q = 4
  · subst g; rfl
  rw [pk_un g]
  by_cases i : q = 2
  · subst i; rfl
  rw [pk_un i, h q hq]
  unfold bgF
  rw [if_neg i, if_neg g, if_neg e, if_neg d, if_neg c, if_neg b, if_neg a]
theorem bg_mS {rd : Nat → Int32} (h1 : ∀ q, q < 61 ∨ 77 ≤ q → q < 110 ∨ 117 ≤ q → q < 120 → rd q = bgF q) (h2 : ∀ k, k < 7 → rd (110 + k) = 100) (S : Sch) : mS rd 0 (clS S) := by
  refine ⟨h1 0 (by omega) (by omega) (by omega), h1 1 (by omega) (by omega) (by omega), fun j hj => ?_, fun i hi => absurd hi (Nat.not_lt_zero _), fun i hi => absurd hi (Nat.not_lt_zero _), fun d hd => ⟨?_, ?_⟩⟩
  · rw [show 0 + 2 + j = 2 + j by omega, h1 (2 + j) (by omega) (by omega) (by omega)]
    exact (by decide : ∀ j, j < 11 → bgF (2 + j) = FR0 j) j hj
  · rw [show 0 + 103 + d = 103 + d by omega, h1 (103 + d) (by omega) (by omega) (by omega)]
    refine Eq.trans ?_ (up7_at d hd).symm
    exact (by decide : ∀ d, d < 7 → bgF (103 + d) = 0) d hd
  · rw [show 0 + 110 + d = 110 + d by omega, h2 d hd]
    exact (up7_at d hd).symm
theorem bg_SF {rd : Nat → Int32} (h1 : ∀ q, q < 61 ∨ 77 ≤ q → q < 110 ∨ 117 ≤ q → q < 120 → rd q = bgF q) (h2 : ∀ k, k < 16 → rd (61 + k) = -1) : SF 0 rd := ⟨⟨0, h1 0 (by omega) (by omega) (by omega), Nat.le_refl _⟩, ⟨0, h1 1 (by omega) (by omega) (by omega), Nat.le_refl _⟩, fun i hi => Or.inl (h2 i hi), 1, h1 4 (by omega) (by omega) (by omega), by decide, by decide⟩
theorem m_beg0_ok (m0 : σ.2 y = some (.inr (.inr (10, mo y g)))) (m_all : σ.2 (y + 1) = some (.inl (0, 4500, A))) {rd : Nat → Int32} (m_read : σ.2 (y + 3) = some (.inl (0, 120, rd))) : RetX Γ m_M_begins [.ref y, .int 0] σ (y + 3) (y + 4) none (fun τ => ∃ rd1, τ.2 (y + 3) = some (.inl (0, 120, rd1)) ∧ (∀ S, mS rd1 0 (clS S)) ∧ SF 0 rd1) := by
  unfold RetX
  generalize hQ : ((fun (r0 : Option Value) (τ : ex_S) => r0 = none ∧ frm σ τ (y + 3) (y + 4) ∧ (fun τ : ex_S => ∃ rd1, τ.2 (y + 3) = some (.inl (0, 120, rd1)) ∧ (∀ S, mS rd1 0 (clS S)) ∧ SF 0 rd1) τ)) = Q
  refine Ret.start pm_190 rfl ?_
  have fr : frm σ σ (y + 3) (y + 4) := frm.rf
  have m_has : σ.2 (y + 2) = σ.2 (y + 2) := rfl
  refine Ev.iconst (v := 0) rfl (by decide) ?_
  refine Ev.istore_n rfl rfl rfl ?_
  have hl2 : ∀ (m2 : Nat) (i : Nat) (rq : (Nat → Int32)), (i ≤ 120 ∧ ∀ q, q < i → rq q = 0) → (121 - i) < m2 → ∀ τ2 : ex_S, frm σ τ2 (y + 3) (y + 4) → τ2.2 y = some (.inr (.inr (10, mo y g))) → τ2.2 (y + 1) = some (.inl (0, 4500, A)) → τ2.2 (y + 3) = some (.inl (0, 120, rq)) → τ2.2 (y + 2) = σ.2 (y + 2) → Ev Γ 0 0 m_M_begins 0 0 2 [some (.ref y), some (.int (0 : Int32)), some (.int (nI i))] [] τ2 Q := by
    intro m2
    induction m2 with
    | zero => intro i rq _ hm; exact absurd hm (Nat.not_lt_zero _)
    | succ m2 ih2 =>
      intro i rq hJ2 hm2
      intro τ2 fr m0 m_all m_read m_has
      obtain ⟨hi, hz⟩ := hJ2
      refine Ev.iload_n rfl rfl ?_
      refine Ev.bipush (v := 120) rfl (by decide) ?_
      refine Ev.jge (tgt := 21) rfl (by decide) (fun c5 => ?_) (fun c5 => ?_)
      · skip
        have hi2 : i = 120 := Nat.le_antisymm hi (Nat.le_of_not_lt (fun h => c5 (nI_lt (b := 120) h (by decide))))
        refine Ev.iload_n rfl rfl ?_
        refine Ev.zne (tgt := 133) rfl (by decide) (fun c22 => absurd (by decide) c22) (fun c22 => ?_)
        refine Ev.aload_n rfl rfl ?_
        refine Ev.getf rfl rfl m0 rfl ?_
        refine Ev.iconst (v := 2) rfl (by decide) ?_
        refine Ev.bipush (v := 15) rfl (by decide) ?_
        refine Ev.iastE (k := 2) rfl m_read (rfl : (2 : Int32) = nI 2) ⟨(by omega), by decide⟩ (fun τ1 f1 m_read => ?_)
        have m0 := frm.cell f1 m0 (by omega)
        have m_all := frm.cell f1 m_all (by omega)
        have m_has := frm.cell f1 m_has (by omega)
        have fr := fr.step f1 (by omega) (by omega)
        refine Ev.aload_n rfl rfl ?_
        refine Ev.getf rfl rfl m0 rfl ?_
        refine Ev.iconst (v := 4) rfl (by decide) ?_
        refine Ev.iconst (v := 1) rfl (by decide) ?_
        refine Ev.iastE (k := 4) rfl m_read (rfl : (4 : Int32) = nI 4) ⟨(by omega), by decide⟩ (fun τ2 f1 m_read => ?_)
        have m0 := frm.cell f1 m0 (by omega)
        have m_all := frm.cell f1 m_all (by omega)
        have m_has := frm.cell f1 m_has (by omega)
        have fr := fr.step f1 (by omega) (by omega)
        refine Ev.aload_n rfl rfl ?_
        refine Ev.getf rfl rfl m0 rfl ?_
        refine Ev.iconst (v := 5) rfl (by decide) ?_
        refine Ev.bipush (v := 15) rfl (by decide) ?_
        refine Ev.iastE (k := 5) rfl m_read (rfl : (5 : Int32) = nI 5) ⟨(by omega), by decide⟩ (fun τ3 f1 m_read => ?_)
        have m0 := frm.cell f1 m0 (by omega)
        have m_all := frm.cell f1 m_all (by omega)
        have m_has := frm.cell f1 m_has (by omega)
        have fr := fr.step f1 (by omega) (by omega)
        refine Ev.aload_n rfl rfl ?_
        refine Ev.getf rfl rfl m0 rfl ?_
        refine Ev.bipush (v := 6) rfl (by decide) ?_
        refine Ev.bipush (v := 9) rfl (by decide) ?_
        refine Ev.iastE (k := 6) rfl m_read (rfl : (6 : Int32) = nI 6) ⟨(by omega), by decide⟩ (fun τ4 f1 m_read => ?_)
        have m0 := frm.cell f1 m0 (by omega)
        have m_all := frm.cell f1 m_all (by omega)
        have m_has := frm.cell f1 m_has (by omega)
        have fr := fr.step f1 (by omega) (by omega)
        refine Ev.aload_n rfl rfl ?_
        refine Ev.getf rfl rfl m0 rfl ?_
        refine Ev.bipush (v := 9) rfl (by decide) ?_
        refine Ev.bipush (v := 10) rfl (by decide) ?_
        refine Ev.iastE (k := 9) rfl m_read (rfl : (9 : Int32) = nI 9) ⟨(by omega), by decide⟩ (fun τ5 f1 m_read => ?_)
        have m0 := frm.cell f1 m0 (by omega)
        have m_all := frm.cell f1 m_all (by omega)
        have m_has := frm.cell f1 m_has (by omega)
        have fr := fr.step f1 (by omega) (by omega)
        refine Ev.aload_n rfl rfl ?_
        refine Ev.getf rfl rfl m0 rfl ?_
        refine Ev.bipush (v := 10) rfl (by decide) ?_
        refine Ev.bipush (v := 50) rfl (by decide) ?_
        refine Ev.iastE (k := 10) rfl m_read (rfl : (10 : Int32) = nI 10) ⟨(by omega), by decide⟩ (fun τ6 f1 m_read => ?_)
        have m0 := frm.cell f1 m0 (by omega)
        have m_all := frm.cell f1 m_all (by omega)
        have m_has := frm.cell f1 m_has (by omega)
        have fr := fr.step f1 (by omega) (by omega)
        refine Ev.aload_n rfl rfl ?_
        refine Ev.getf rfl rfl m0 rfl ?_
        refine Ev.bipush (v := 12) rfl (by decide) ?_
        refine Ev.bipush (v := 100) rfl (by decide) ?_
        refine Ev.iastE (k := 12) rfl m_read (rfl : (12 : Int32) = nI 12) ⟨(by omega), by decide⟩ (fun τ7 f1 m_read => ?_)
        have m0 := frm.cell f1 m0 (by omega)
        have m_all := frm.cell f1 m_all (by omega)
        have m_has := frm.cell f1 m_has (by omega)
        have fr := fr.step f1 (by omega) (by omega)
        refine Ev.iconst (v := 0) rfl (by decide) ?_
        refine Ev.istore_n rfl rfl rfl ?_
        have hl86 : ∀ (m86 : Nat) (i : Nat) (rq2 : (Nat → Int32)), (i ≤ 16 ∧ (∀ q, q < 61 ∨ 77 ≤ q → q < 120 → rq2 q = bgF q) ∧ ∀ k, k < i → rq2 (61 + k) = -1) → (17 - i) < m86 → ∀ τ86 : ex_S, frm σ τ86 (y + 3) (y + 4) → τ86.2 y = some (.inr (.inr (10, mo y g))) → τ86.2 (y + 1) = some (.inl (0, 4500, A)) → τ86.2 (y + 3) = some (.inl (0, 120, rq2)) → τ86.2 (y + 2) = σ.2 (y + 2) → Ev Γ 0 0 m_M_begins 0 0 86 [some (.ref y), none, some (.int (nI i))] [] τ86 Q := by
          intro m86
          induction m86 with
          | zero => intro i rq2 _ hm; exact absurd hm (Nat.not_lt_zero _)
          | succ m86 ih86 =>
            intro i rq2 hJ86 hm86
            intro τ86 fr m0 m_all m_read m_has
            obtain ⟨hi, hk2, h16⟩ := hJ86
            refine Ev.iload_n rfl rfl ?_
            refine Ev.bipush (v := 16) rfl (by decide) ?_
            refine Ev.jge (tgt := 108) rfl (by decide) (fun c89 => ?_) (fun c89 => ?_)
            · skip
              have hi2 : i = 16 := Nat.le_antisymm hi (Nat.le_of_not_lt (fun h => c89 (nI_lt (b := 16) h (by decide))))
              refine Ev.iconst (v := 0) rfl (by decide) ?_
              refine Ev.istore_n rfl rfl rfl ?_
              have hl110 : ∀ (m110 : Nat) (i : Nat) (rq3 : (Nat → Int32)), (i ≤ 7 ∧ (∀ q, q < 110 ∨ 117 ≤ q → q < 120 → rq3 q = rq2 q) ∧ ∀ k, k < i → rq3 (110 + k) = 100) → (8 - i) < m110 → ∀ τ110 : ex_S, frm σ τ110 (y + 3) (y + 4) → τ110.2 y = some (.inr (.inr (10, mo y g))) → τ110.2 (y + 1) = some (.inl (0, 4500, A)) → τ110.2 (y + 3) = some (.inl (0, 120, rq3)) → τ110.2 (y + 2) = σ.2 (y + 2) → Ev Γ 0 0 m_M_begins 0 0 110 [some (.ref y), none, some (.int (nI i))] [] τ110 Q := by
                intro m110
                induction m110 with
                | zero => intro i rq3 _ hm; exact absurd hm (Nat.not_lt_zero _)
                | succ m110 ih110 =>
                  intro i rq3 hJ110 hm110
                  intro τ110 fr m0 m_all m_read m_has
                  obtain ⟨hi, hk3, h73⟩ := hJ110
                  refine Ev.iload_n rfl rfl ?_
                  refine Ev.bipush (v := 7) rfl (by decide) ?_
                  refine Ev.jge (tgt := 133) rfl (by decide) (fun c113 => ?_) (fun c113 => ?_)
                  · skip
                    have hi7 : 7 ≤ i := Nat.le_of_not_lt (fun h => c113 (nI_lt (b := 7) h (by decide)))
                    refine Ev.ret rfl rfl (Nat.le_refl _) (Nat.le_refl _) ?_
                    rw [← hQ]
                    have h1 : ∀ q, q < 61 ∨ 77 ≤ q → q < 110 ∨ 117 ≤ q → q < 120 → rq3 q = bgF q := fun q a b c => (hk3 q b c).trans (hk2 q a c)
                    exact ⟨rfl, fr, _, m_read, fun S => bg_mS h1 (fun k hk => h73 k (by omega)) S, bg_SF h1 (fun k hk => (hk3 (61 + k) (by omega) (by omega)).trans (h16 k (by omega)))⟩
                  · skip
                    have hi1 : i < 7 := (nI_ltI (a := i) (b := 7) (by omega) (by decide)).mp c113
                    refine Ev.aload_n rfl rfl ?_
                    refine Ev.getf rfl rfl m0 rfl ?_
                    refine Ev.bipush (v := 110) rfl (by decide) ?_
                    refine Ev.iload_n rfl rfl ?_
                    refine Ev.iadd rfl ?_
                    refine Ev.bipush (v := 100) rfl (by decide) ?_
                    refine Ev.iastE (k := 110 + i) rfl m_read (nq_add (a := 110) (b := i) (rfl : (110 : Int32) = nI 110) rfl) ⟨(by omega), by decide⟩ (fun τ8 f1 m_read => ?_)
                    have m0 := frm.cell f1 m0 (by omega)
                    have m_all := frm.cell f1 m_all (by omega)
                    have m_has := frm.cell f1 m_has (by omega)
                    have fr := fr.step f1 (by omega) (by omega)
                    refine Ev.iinc (d := 1) rfl rfl rfl (by decide) rfl ?_
                    refine Ev.goto (tgt := 110) rfl (by decide) ?_
                    exact (ih110 (i + 1) (upd rq3 (110 + i) (100 : Int32)) (⟨by omega, fun q a c => (pk_un (by omega)).trans (hk3 q a c), fun k hk => by
                      by_cases e : k = i
                      · subst e
                        exact pk_us
                      · exact (pk_un (by omega)).trans (h73 k (by omega))⟩) (by omega) τ8 fr m0 m_all m_read m_has).fg (gs rfl (gn (gs (congrArg Value.int (nq_add (a := i) (b := 1) rfl (rfl : (1 : Int32) = nI 1)).symm) gz)))
              exact (hl110 _ 0 rq2 (⟨Nat.zero_le _, fun q _ _ => rfl, fun q h => absurd h (Nat.not_lt_zero _)⟩) (Nat.lt_succ_self _) τ86 fr m0 m_all m_read m_has).fg (gs rfl (gn (gs (congrArg Value.int (rfl : (0 : Int32) = nI 0).symm) gz)))
            · skip
              have hi1 : i < 16 := (nI_ltI (a := i) (b := 16) (by omega) (by decide)).mp c89
              refine Ev.aload_n rfl rfl ?_
              refine Ev.getf rfl rfl m0 rfl ?_
              refine Ev.bipush (v := 61) rfl (by decide) ?_
              refine Ev.iload_n rfl rfl ?_
              refine Ev.iadd rfl ?_
              refine Ev.iconst (v := (-1)) rfl (by decide) ?_
              refine Ev.iastE (k := 61 + i) rfl m_read (nq_add (a := 61) (b := i) (rfl : (61 : Int32) = nI 61) rfl) ⟨(by omega), by decide⟩ (fun τ9 f1 m_read => ?_)
              have m0 := frm.cell f1 m0 (by omega)
              have m_all := frm.cell f1 m_all (by omega)
              have m_has := frm.cell f1 m_has (by omega)
              have fr := fr.step f1 (by omega) (by omega)
              refine Ev.iinc (d := 1) rfl rfl rfl (by decide) rfl ?_
              refine Ev.goto (tgt := 86) rfl (by decide) ?_
              exact (ih86 (i + 1) (upd rq2 (61 + i) (-1 : Int32)) (⟨by omega, fun q a c => (pk_un (by omega)).trans (hk2 q a c), fun k hk => by
                by_cases e : k = i
                · subst e
                  exact pk_us
                · exact (pk_un (by omega)).trans (h16 k (by omega))⟩) (by omega) τ9 fr m0 m_all m_read m_has).fg (gs rfl (gn (gs (congrArg Value.int (nq_add (a := i) (b := 1) rfl (rfl : (1 : Int32) = nI 1)).symm) gz)))
        exact (hl86 _ 0 (upd (upd (upd (upd (upd (upd (upd rq 2 (15 : Int32)) 4 (1 : Int32)) 5 (15 : Int32)) 6 (9 : Int32)) 9 (10 : Int32)) 10 (50 : Int32)) 12 (100 : Int32)) (⟨Nat.zero_le _, fun q _ c => bgF_w (fun q hq => hz q (by omega)) q c, fun q h => absurd h (Nat.not_lt_zero _)⟩) (Nat.lt_succ_self _) τ7 fr m0 m_all m_read m_has).fg (gs rfl (gn (gs (congrArg Value.int (rfl : (0 : Int32) = nI 0).symm) gz)))
      · skip
        have hi1 : i < 120 := (nI_ltI (a := i) (b := 120) (by omega) (by decide)).mp c5
        refine Ev.aload_n rfl rfl ?_
        refine Ev.getf rfl rfl m0 rfl ?_
        refine Ev.iload_n rfl rfl ?_
        refine Ev.iconst (v := 0) rfl (by decide) ?_
        refine Ev.iastE (k := i) rfl m_read rfl ⟨(by omega), by decide⟩ (fun τ10 f1 m_read => ?_)
        have m0 := frm.cell f1 m0 (by omega)
        have m_all := frm.cell f1 m_all (by omega)
        have m_has := frm.cell f1 m_has (by omega)
        have fr := fr.step f1 (by omega) (by omega)
        refine Ev.iinc (d := 1) rfl rfl rfl (by decide) rfl ?_
        refine Ev.goto (tgt := 2) rfl (by decide) ?_
        exact (ih2 (i + 1) (upd rq i (0 : Int32)) (⟨by omega, fun q hq => by
          by_cases e : q = i
          · subst e
            exact pk_us
          · exact (pk_un e).trans (hz q (by omega))⟩) (by omega) τ10 fr m0 m_all m_read m_has).fg (gs rfl (gs rfl (gs (congrArg Value.int (nq_add (a := i) (b := 1) rfl (rfl : (1 : Int32) = nI 1)).symm) gz)))
  exact (hl2 _ 0 rd (⟨Nat.zero_le _, fun q h => absurd h (Nat.not_lt_zero _)⟩) (Nat.lt_succ_self _) σ fr m0 m_all m_read m_has).fg (gs rfl (gs rfl (gs (congrArg Value.int (rfl : (0 : Int32) = nI 0).symm) gz)))
theorem m_beg1_ok (m0 : σ.2 y = some (.inr (.inr (10, mo y g)))) (m_all : σ.2 (y + 1) = some (.inl (0, 4500, A))) {rd : Nat → Int32} (m_read : σ.2 (y + 3) = some (.inl (0, 120, rd))) : RetX Γ m_M_begins [.ref y, .int 1] σ (y + 3) (y + 4) none (fun τ => ∃ rd1, τ.2 (y + 3) = some (.inl (0, 120, rd1)) ∧ rd1 0 = nI 0) := by
  unfold RetX
  generalize hQ : ((fun (r0 : Option Value) (τ : ex_S) => r0 = none ∧ frm σ τ (y + 3) (y + 4) ∧ (fun τ : ex_S => ∃ rd1, τ.2 (y + 3) = some (.inl (0, 120, rd1)) ∧ rd1 0 = nI 0) τ)) = Q
  refine Ret.start pm_190 rfl ?_
  have fr : frm σ σ (y + 3) (y + 4) := frm.rf
  have m_has : σ.2 (y + 2) = σ.2 (y + 2) := rfl
  refine Ev.iconst (v := 0) rfl (by decide) ?_
  refine Ev.istore_n rfl rfl rfl ?_
  have hl2 : ∀ (m2 : Nat) (i : Nat) (rq : (Nat → Int32)), (i ≤ 120 ∧ ∀ q, q < i → rq q = 0) → (121 - i) < m2 → ∀ τ2 : ex_S, frm σ τ2 (y + 3) (y + 4) → τ2.2 y = some (.inr (.inr (10, mo y g))) → τ2.2 (y + 1) = some (.inl (0, 4500, A)) → τ2.2 (y + 3) = some (.inl (0, 120, rq)) → τ2.2 (y + 2) = σ.2 (y + 2) → Ev Γ 0 0 m_M_begins 0 0 2 [some (.ref y), some (.int (1 : Int32)), some (.int (nI i))] [] τ2 Q := by
    intro m2
    induction m2 with
    | zero => intro i rq _ hm; exact absurd hm (Nat.not_lt_zero _)
    | succ m2 ih2 =>
      intro i rq hJ2 hm2
      intro τ2 fr m0 m_all m_read m_has
      obtain ⟨hi, hz⟩ := hJ2
      refine Ev.iload_n rfl rfl ?_
      refine Ev.bipush (v := 120) rfl (by decide) ?_
      refine Ev.jge (tgt := 21) rfl (by decide) (fun c5 => ?_) (fun c5 => ?_)
      · skip
        have hi2 : i = 120 := Nat.le_antisymm hi (Nat.le_of_not_lt (fun h => c5 (nI_lt (b := 120) h (by decide))))
        refine Ev.iload_n rfl rfl ?_
        refine Ev.zne (tgt := 133) rfl (by decide) (fun c22 => ?_) (fun c22 => absurd c22 (by decide))
        refine Ev.ret rfl rfl (Nat.le_refl _) (Nat.le_refl _) ?_
        rw [← hQ]
        exact ⟨rfl, fr, _, m_read, hz 0 (by omega)⟩
      · skip
        have hi1 : i < 120 := (nI_ltI (a := i) (b := 120) (by omega) (by decide)).mp c5
        refine Ev.aload_n rfl rfl ?_
        refine Ev.getf rfl rfl m0 rfl ?_
        refine Ev.iload_n rfl rfl ?_
        refine Ev.iconst (v := 0) rfl (by decide) ?_
        refine Ev.iastE (k := i) rfl m_read rfl ⟨(by omega), by decide⟩ (fun τ1 f1 m_read => ?_)
        have m0 := frm.cell f1 m0 (by omega)
        have m_all := frm.cell f1 m_all (by omega)
        have m_has := frm.cell f1 m_has (by omega)
        have fr := fr.step f1 (by omega) (by omega)
        refine Ev.iinc (d := 1) rfl rfl rfl (by decide) rfl ?_
        refine Ev.goto (tgt := 2) rfl (by decide) ?_
        exact (ih2 (i + 1) (upd rq i (0 : Int32)) (⟨by omega, fun q hq => by
          by_cases e : q = i
          · subst e
            exact pk_us
          · exact (pk_un e).trans (hz q (by omega))⟩) (by omega) τ1 fr m0 m_all m_read m_has).fg (gs rfl (gs rfl (gs (congrArg Value.int (nq_add (a := i) (b := 1) rfl (rfl : (1 : Int32) = nI 1)).symm) gz)))
  exact (hl2 _ 0 rd (⟨Nat.zero_le _, fun q h => absurd h (Nat.not_lt_zero _)⟩) (Nat.lt_succ_self _) σ fr m0 m_all m_read m_has).fg (gs rfl (gs rfl (gs (congrArg Value.int (rfl : (0 : Int32) = nI 0).symm) gz)))
end
end
