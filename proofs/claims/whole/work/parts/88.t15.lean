/-! Images: again on both sides, image of the reference. -/
noncomputable section
theorem fit_byte {v : Int32} (h : rg v (-128) 127) : fits .byte (.int v) = true := by
  show (decide ((-128 : Int32) ≤ v) && decide (v ≤ (127 : Int32))) = true
  have h1 : (-128 : Int32) ≤ v := by
    rw [Int32.le_iff_toInt_le, show (-128 : Int32).toInt = -128 from rfl]
    exact h.1
  have h2 : v ≤ (127 : Int32) := by
    rw [Int32.le_iff_toInt_le, show (127 : Int32).toInt = 127 from rfl]
    exact h.2
  rw [decide_eq_true h1, decide_eq_true h2]
  rfl
/-- N cells copied -/
def K_blk (s t N : Nat) (A : Nat → Int32) : Nat → Int32 := fo (F_m_copies_2 s t A) N 0 A
theorem blk_at {s t N : Nat} {A : Nat → Int32} (h : s + N ≤ t ∨ t + N ≤ s) (q : Nat) : K_blk s t N A q = if t ≤ q ∧ q < t + N then A (s + (q - t)) else A q := by
  unfold K_blk
  have key := fo_inv (F := F_m_copies_2 s t A) (fun i z => ∀ q, z q = if t ≤ q ∧ q < t + i then A (s + (q - t)) else A q) N 0 A (fun q => by rw [if_neg (by omega)]) (fun j z _ hj hz q => by
    unfold F_m_copies_2
    by_cases e : q = t + j
    · subst e
      rw [pk_us, hz, if_neg (by omega), if_pos (by omega), show t + j - t = j by omega]
    · rw [pk_un e, hz]
      by_cases e2 : t ≤ q ∧ q < t + j
      · rw [if_pos e2, if_pos (by omega)]
      · rw [if_neg e2, if_neg (by omega)])
  have := key q
  rw [Nat.zero_add] at this
  exact this
theorem im_ix {k q : Nat} : (1090 : Int32) * (nI k + (1 : Int32)) + nI q = nI (1090 * (k + 1) + q) := nq_add (nq_mul (a := 1090) rfl (nq_add (a := k) (b := 1) rfl rfl)) rfl
section
variable {RC RS mi cells slots pc : Nat} {L : ex_L} {st : List Value} {Q : Option Value → ex_S → Prop}
variable {Γ : ex_G} {σ : ex_S} {x q a p y : Nat} {S : Sch} {T : Tol} {P : Pln} {g A : Nat → Int32}
theorem Ev.aaldNul {a n t k : Nat} {f : Nat → Option Nat} {i : Int32} {C : String} (hi : pg_ins mi pc = some (.aaload, 1)) (ha : σ.2 a = some (.inr (.inl (t, n, f)))) (ht : ex_tl[t]? = some (.object C)) (hk : i = nI k) (hn : k < n ∧ n < 2 ^ 31) (hv : f k = none) (h : Ev Γ RC RS mi cells slots (pc + 1) L (.null :: st) σ Q) : Ev Γ RC RS mi cells slots pc L (.int i :: .ref a :: st) σ Q := by
  obtain ⟨h1, h2⟩ := ex_inN hk hn
  exact Ev.aald hi ha ht h1 (by rw [h2, hv]; exact h)
theorem again_bad (hX : isX σ x) {k : Int32} (hk : k < 0 ∨ nI 3 ≤ k) : RetV Γ m_SD_again [.ref x, .int k] σ (.int 0) := by
  unfold RetV
  generalize hQ : (fun (r : Option Value) (σ' : ex_S) => r = some ((.int (0)) : Value) ∧ σ' = σ) = Q
  refine Ret.start pm_46 rfl ?_
  refine Ev.iload_n rfl rfl ?_
  refine Ev.if_lt (tgt := 18) rfl (by decide) (fun c1 => ?_) (fun c1 => ?_)
  · skip
    refine Ev.iconst (v := 0) rfl (by decide) ?_
    refine Ev.iret (ty := .boolean) rfl rfl rfl (Nat.le_refl _) (Nat.le_refl _) ?_
    rw [← hQ]
    exact ⟨rfl, rfl⟩
  · skip
    refine Ev.iload_n rfl rfl ?_
    refine Ev.iconst (v := 3) rfl (by decide) ?_
    refine Ev.icmp_ge (tgt := 18) rfl (by decide) (fun c6 => ?_) (fun c6 => absurd (hk.resolve_left c1) c6)
    refine Ev.iconst (v := 0) rfl (by decide) ?_
    refine Ev.iret (ty := .boolean) rfl rfl rfl (Nat.le_refl _) (Nat.le_refl _) ?_
    rw [← hQ]
    exact ⟨rfl, rfl⟩
theorem image_bad (hX : isX σ x) {k : Int32} (hk : k < 0 ∨ nI 3 ≤ k) : RetV Γ m_SD_image [.ref x, .int k] σ (.int 0) := by
  unfold RetV
  generalize hQ : (fun (r : Option Value) (σ' : ex_S) => r = some ((.int (0)) : Value) ∧ σ' = σ) = Q
  refine Ret.start pm_45 rfl ?_
  refine Ev.iload_n rfl rfl ?_
  refine Ev.if_lt (tgt := 9) rfl (by decide) (fun c1 => ?_) (fun c1 => ?_)
  · skip
    refine Ev.iconst (v := 0) rfl (by decide) ?_
    refine Ev.iret (ty := .boolean) rfl rfl rfl (Nat.le_refl _) (Nat.le_refl _) ?_
    rw [← hQ]
    exact ⟨rfl, rfl⟩
  · skip
    refine Ev.iload_n rfl rfl ?_
    refine Ev.iconst (v := 3) rfl (by decide) ?_
    refine Ev.icmp_lt (tgt := 11) rfl (by decide) (fun c6 => absurd (hk.resolve_left c1) (Int32.not_le.mpr c6)) (fun c6 => ?_)
    refine Ev.iconst (v := 0) rfl (by decide) ?_
    refine Ev.iret (ty := .boolean) rfl rfl rfl (Nat.le_refl _) (Nat.le_refl _) ?_
    rw [← hQ]
    exact ⟨rfl, rfl⟩
theorem again_nil (hX : isX σ x) {im : Nat → Option Nat} (hI : σ.2 (x + 62) = some (.inr (.inl (6, 3, im)))) {k : Nat} (hk : k < 3) (hn : im k = none) : RetV Γ m_SD_again [.ref x, .int (nI k)] σ (.int 0) := by
  unfold RetV
  generalize hQ : (fun (r : Option Value) (σ' : ex_S) => r = some ((.int (0)) : Value) ∧ σ' = σ) = Q
  refine Ret.start pm_46 rfl ?_
  refine Ev.iload_n rfl rfl ?_
  refine Ev.if_lt (tgt := 18) rfl (by decide) (fun c1 => absurd c1 (nI_pos (by omega))) (fun c1 => ?_)
  refine Ev.iload_n rfl rfl ?_
  refine Ev.iconst (v := 3) rfl (by decide) ?_
  refine Ev.icmp_ge (tgt := 18) rfl (by decide) (fun c6 => absurd c6 (Int32.not_le.mpr (nI_lt (b := 3) hk (by omega)))) (fun c6 => ?_)
  refine Ev.aload_n rfl rfl ?_
  refine Ev.getf rfl rfl hX rfl ?_
  refine Ev.iload_n rfl rfl ?_
  refine Ev.aaldNul (k := k) rfl hI rfl rfl ⟨hk, by decide⟩ hn ?_
  refine Ev.ifnonnullN rfl ?_
  refine Ev.iconst (v := 0) rfl (by decide) ?_
  refine Ev.iret (ty := .boolean) rfl rfl rfl (Nat.le_refl _) (Nat.le_refl _) ?_
  rw [← hQ]
  exact ⟨rfl, rfl⟩
theorem again_some (hX : isX σ x) (hT : isT σ (x + 1) T) {im : Nat → Option Nat} (hI : σ.2 (x + 62) = some (.inr (.inl (6, 3, im)))) {k a : Nat} (hk : k < 3) (hn : im k = some a) {U : Tol} (hU : isT σ a U) (hf : fitT U) (ha : x + 62 ≤ a) : RetX Γ m_SD_again [.ref x, .int (nI k)] σ (x + 1) (x + 62) (some (.int 1)) (fun τ => isT τ (x + 1) U) := by
  unfold RetX
  generalize hQ : (fun (r : Option Value) (τ : ex_S) => r = some (.int 1) ∧ frm σ τ (x + 1) (x + 62) ∧ (fun τ => isT τ (x + 1) U) τ) = Q
  refine Ret.start pm_46 rfl ?_
  refine Ev.iload_n rfl rfl ?_
  refine Ev.if_lt (tgt := 18) rfl (by decide) (fun c1 => absurd c1 (nI_pos (by omega))) (fun c1 => ?_)
  refine Ev.iload_n rfl rfl ?_
  refine Ev.iconst (v := 3) rfl (by decide) ?_
  refine Ev.icmp_ge (tgt := 18) rfl (by decide) (fun c6 => absurd c6 (Int32.not_le.mpr (nI_lt (b := 3) hk (by omega)))) (fun c6 => ?_)
  refine Ev.aload_n rfl rfl ?_
  refine Ev.getf rfl rfl hX rfl ?_
  refine Ev.iload_n rfl rfl ?_
  refine Ev.aaldN (k := k) rfl hI rfl rfl ⟨hk, by decide⟩ hn ?_
  refine Ev.ifnonnull (tgt := 20) rfl (by decide) ?_
  refine Ev.aload_n rfl rfl ?_
  refine Ev.getf rfl rfl hX rfl ?_
  refine Ev.aload_n rfl rfl ?_
  refine Ev.getf rfl rfl hX rfl ?_
  refine Ev.iload_n rfl rfl ?_
  refine Ev.aaldN (k := k) rfl hI rfl rfl ⟨hk, by decide⟩ hn ?_
  refine Ev.xV1u rfl rfl hT.1 rfl rfl (by decide) ⟨(Nat.le_refl _), (Nat.le_refl _)⟩ (copyT_ok hT hU (fun i hi => fit_byte (hf i hi)) (by omega)) (fun τ1 f1 q1 => ?_)
  refine Ev.iconst (v := 1) rfl (by decide) ?_
  refine Ev.iret (ty := .boolean) rfl rfl rfl (Nat.le_refl _) (Nat.le_refl _) ?_
  rw [← hQ]
  exact ⟨rfl, f1.mono (by omega) (by omega), q1⟩
theorem m_again_bad (hM : isM σ y g A) {k : Int32} (hk : k < 0 ∨ nI 3 ≤ k) : RetV Γ m_M_again [.ref y, .int k] σ (.int (0)) := by
  obtain ⟨m0, m1⟩ := id hM
  unfold RetV
  generalize hQ : (fun (r : Option Value) (σ' : ex_S) => r = some ((.int (0)) : Value) ∧ σ' = σ) = Q
  refine Ret.start pm_276 rfl ?_
  refine Ev.iload_n rfl rfl ?_
  refine Ev.iconst (v := 0) rfl (by decide) ?_
  refine Ev.iconst (v := 2) rfl (by decide) ?_
  refine Ev.cS3 rfl rfl rfl (by decide) ⟨(Nat.le_refl _), (Nat.le_refl _)⟩ (m_in_n (K_in_no (n := 3) (by omega) hk)) ?_
  refine Ev.if_eq (tgt := 18) rfl (by decide) (fun c6 => ?_) (fun c6 => absurd rfl c6)
  refine Ev.iconst (v := 0) rfl (by decide) ?_
  refine Ev.iret (ty := .boolean) rfl rfl rfl (Nat.le_refl _) (Nat.le_refl _) ?_
  rw [← hQ]
  exact ⟨rfl, rfl⟩
theorem m_image_bad (hM : isM σ y g A) {k : Int32} (hk : k < 0 ∨ nI 3 ≤ k) : RetV Γ m_M_image [.ref y, .int k] σ (.int (0)) := by
  obtain ⟨m0, m1⟩ := id hM
  unfold RetV
  generalize hQ : (fun (r : Option Value) (σ' : ex_S) => r = some ((.int (0)) : Value) ∧ σ' = σ) = Q
  refine Ret.start pm_275 rfl ?_
  refine Ev.iload_n rfl rfl ?_
  refine Ev.iconst (v := 0) rfl (by decide) ?_
  refine Ev.iconst (v := 2) rfl (by decide) ?_
  refine Ev.cS3 rfl rfl rfl (by decide) ⟨(Nat.le_refl _), (Nat.le_refl _)⟩ (m_in_n (K_in_no (n := 3) (by omega) hk)) ?_
  refine Ev.if_ne (tgt := 11) rfl (by decide) (fun c6 => absurd rfl c6) (fun c6 => ?_)
  refine Ev.iconst (v := 0) rfl (by decide) ?_
  refine Ev.iret (ty := .boolean) rfl rfl rfl (Nat.le_refl _) (Nat.le_refl _) ?_
  rw [← hQ]
  exact ⟨rfl, rfl⟩
theorem m_again_nil (hM : isM σ y g A) {hs : Nat → Int32} (h2 : σ.2 (y + 2) = some (.inl (2, 3, hs))) {k : Nat} (hk : k < 3) (h1 : hs k = 0) : RetV Γ m_M_again [.ref y, .int (nI k)] σ (.int 0) := by
  unfold RetV
  generalize hQ : (fun (r : Option Value) (σ' : ex_S) => r = some ((.int (0)) : Value) ∧ σ' = σ) = Q
  obtain ⟨m0, m1⟩ := id hM
  refine Ret.start pm_276 rfl ?_
  refine Ev.iload_n rfl rfl ?_
  refine Ev.iconst (v := 0) rfl (by decide) ?_
  refine Ev.iconst (v := 2) rfl (by decide) ?_
  refine Ev.cS3 rfl rfl rfl (by decide) ⟨(Nat.le_refl _), (Nat.le_refl _)⟩ (m_in_y (K_in_yes (n := 3) hk (by omega))) ?_
  refine Ev.if_eq (tgt := 18) rfl (by decide) (fun c6 => absurd c6 (by decide)) (fun c6 => ?_)
  refine Ev.aload_n rfl rfl ?_
  refine Ev.getf rfl rfl m0 rfl ?_
  refine Ev.iload_n rfl rfl ?_
  refine Ev.zaldN (k := k) rfl h2 rfl ⟨hk, by decide⟩ ?_
  rw [h1]
  refine Ev.if_ne (tgt := 20) rfl (by decide) (fun c15 => absurd rfl c15) (fun c15 => ?_)
  refine Ev.iconst (v := 0) rfl (by decide) ?_
  refine Ev.iret (ty := .boolean) rfl rfl rfl (Nat.le_refl _) (Nat.le_refl _) ?_
  rw [← hQ]
  exact ⟨rfl, rfl⟩
theorem m_again_some (hM : isM σ y g A) {hs : Nat → Int32} (h2 : σ.2 (y + 2) = some (.inl (2, 3, hs))) {k : Nat} (hk : k < 3) (h1 : hs k = 1) : RetX Γ m_M_again [.ref y, .int (nI k)] σ (y + 1) (y + 2) (some (.int 1)) (fun τ => τ.2 (y + 1) = some (.inl (0, 4500, K_blk (1090 * (k + 1)) 0 1090 A))) := by
  unfold RetX
  generalize hQ : (fun (r : Option Value) (τ : ex_S) => r = some (.int 1) ∧ frm σ τ (y + 1) (y + 2) ∧ (fun τ : ex_S => τ.2 (y + 1) = some (.inl (0, 4500, K_blk (1090 * (k + 1)) 0 1090 A))) τ) = Q
  obtain ⟨m0, m1⟩ := id hM
  refine Ret.start pm_276 rfl ?_
  refine Ev.iload_n rfl rfl ?_
  refine Ev.iconst (v := 0) rfl (by decide) ?_
  refine Ev.iconst (v := 2) rfl (by decide) ?_
  refine Ev.cS3 rfl rfl rfl (by decide) ⟨(Nat.le_refl _), (Nat.le_refl _)⟩ (m_in_y (K_in_yes (n := 3) hk (by omega))) ?_
  refine Ev.if_eq (tgt := 18) rfl (by decide) (fun c6 => absurd c6 (by decide)) (fun c6 => ?_)
  refine Ev.aload_n rfl rfl ?_
  refine Ev.getf rfl rfl m0 rfl ?_
  refine Ev.iload_n rfl rfl ?_
  refine Ev.zaldN (k := k) rfl h2 rfl ⟨hk, by decide⟩ ?_
  rw [h1]
  refine Ev.if_ne (tgt := 20) rfl (by decide) (fun c15 => ?_) (fun c15 => absurd c15 (by decide))
  refine Ev.iconst (v := 0) rfl (by decide) ?_
  refine Ev.istore_n rfl rfl rfl ?_
  refine Ev.fg (L := [some (.ref y), some (.int (nI k)), some (.int (nI 0))]) ?_ (gs rfl (gs rfl (gs (congrArg Value.int (rfl : (0 : Int32) = nI 0).symm) gz)))
  refine lp (fun (q : Nat) (z : (Nat → Int32)) => ∀ τ' : ex_S, frm σ τ' (y + 1) (y + 1 + 1) → τ'.2 (y + 1) = some (.inl (0, 4500, z)) → Ev Γ 0 0 m_M_again 0 0 22 [some (.ref y), some (.int (nI k)), some (.int (nI q))] [] τ' Q) (F_m_copies_2 (1090 * (k + 1)) 0 A) (1090) (fun q z hq hx => ?_) (1090) 0 A (by omega) ?_ σ frm.rf m1
  · skip
    intro τ' fr m1
    have m0 := frm.cell fr m0 (by omega)
    refine Ev.iload_n rfl rfl ?_
    refine Ev.sipush (v := 1090) rfl (by decide) ?_
    refine Ev.jge (tgt := 55) rfl (by decide) (fun c5 => absurd (nI_lt hq (by omega)) c5) (fun c5 => ?_)
    refine Ev.aload_n rfl rfl ?_
    refine Ev.getf rfl rfl m0 rfl ?_
    refine Ev.iload_n rfl rfl ?_
    refine Ev.aload_n rfl rfl ?_
    refine Ev.getf rfl rfl m0 rfl ?_
    refine Ev.sipush (v := 1090) rfl (by decide) ?_
    refine Ev.iload_n rfl rfl ?_
    refine Ev.iconst (v := 1) rfl (by decide) ?_
    refine Ev.iadd rfl ?_
    refine Ev.imul rfl ?_
    refine Ev.iload_n rfl rfl ?_
    refine Ev.iadd rfl ?_
    refine Ev.ialdN (k := 1090 * (k + 1) + q) rfl m1 im_ix ⟨(by omega), by decide⟩ ?_
    refine Ev.iastE (k := 0 + q) rfl m1 (by rw [Nat.zero_add]) ⟨(by omega), by decide⟩ (fun τ1 f1 m1 => ?_)
    have fr := fr.step f1 (by omega) (by omega)
    refine Ev.iinc (d := 1) rfl rfl rfl (by decide) rfl ?_
    refine Ev.goto (tgt := 22) rfl (by decide) ?_
    have hF : (F_m_copies_2 (1090 * (k + 1)) 0 A) q z = (upd z (0 + q) (z ((1090 * (k + 1)) + q))) := by rfl
    rw [hF] at hx
    exact (hx τ1 fr m1).fg (gs rfl (gs rfl (gs (congrArg Value.int (show nI (q + 1) = (nI q) + (1 : Int32) from (nq_to (a := q + 1) (nq_add (a := q) (b := 1) rfl (rfl : (1 : Int32) = nI 1)) (by omega)).symm)) gz)))
  · skip
    intro τ' fr m1
    refine Ev.iload_n rfl rfl ?_
    refine Ev.sipush (v := 1090) rfl (by decide) ?_
    refine Ev.jge (tgt := 55) rfl (by decide) (fun c5 => ?_) (fun c5 => absurd c5 (nI_nlt (Nat.le_refl _) (by omega)))
    refine Ev.iconst (v := 1) rfl (by decide) ?_
    refine Ev.iret (ty := .boolean) rfl rfl rfl (Nat.le_refl _) (Nat.le_refl _) ?_
    rw [← hQ]
    exact ⟨rfl, fr, m1⟩
theorem m_image_some (hM : isM σ y g A) {hs : Nat → Int32} (h2 : σ.2 (y + 2) = some (.inl (2, 3, hs))) {k : Nat} (hk : k < 3) : RetX Γ m_M_image [.ref y, .int (nI k)] σ (y + 1) (y + 3) (some (.int 1)) (fun τ => τ.2 (y + 1) = some (.inl (0, 4500, K_blk 0 (1090 * (k + 1)) 1090 A)) ∧ τ.2 (y + 2) = some (.inl (2, 3, upd hs k 1))) := by
  unfold RetX
  generalize hQ : (fun (r : Option Value) (τ : ex_S) => r = some (.int 1) ∧ frm σ τ (y + 1) (y + 3) ∧ (fun τ : ex_S => τ.2 (y + 1) = some (.inl (0, 4500, K_blk 0 (1090 * (k + 1)) 1090 A)) ∧ τ.2 (y + 2) = some (.inl (2, 3, upd hs k 1))) τ) = Q
  obtain ⟨m0, m1⟩ := id hM
  refine Ret.start pm_275 rfl ?_
  refine Ev.iload_n rfl rfl ?_
  refine Ev.iconst (v := 0) rfl (by decide) ?_
  refine Ev.iconst (v := 2) rfl (by decide) ?_
  refine Ev.cS3 rfl rfl rfl (by decide) ⟨(Nat.le_refl _), (Nat.le_refl _)⟩ (m_in_y (K_in_yes (n := 3) hk (by omega))) ?_
  refine Ev.if_ne (tgt := 11) rfl (by decide) (fun c6 => ?_) (fun c6 => absurd c6 (by decide))
  refine Ev.aload_n rfl rfl ?_
  refine Ev.getf rfl rfl m0 rfl ?_
  refine Ev.iload_n rfl rfl ?_
  refine Ev.iconst (v := 1) rfl (by decide) ?_
  refine Ev.zastN (k := k) rfl h2 rfl ⟨hk, by decide⟩ rfl ?_
  have f0 : frm σ (ex_put σ (y + 2) (.inl (2, 3, upd hs k 1))) (y + 1) (y + 3) := frm.rf.put (by omega) (by omega)
  have h2 : (ex_put σ (y + 2) (.inl (2, 3, upd hs k 1))).2 (y + 2) = some (.inl (2, 3, upd hs k 1)) := ex_put_eq
  have m0 : (ex_put σ (y + 2) (.inl (2, 3, upd hs k 1))).2 y = _ := (ex_put_ne (by omega)).trans m0
  have m1 : (ex_put σ (y + 2) (.inl (2, 3, upd hs k 1))).2 (y + 1) = _ := (ex_put_ne (by omega)).trans m1
  generalize ex_put σ (y + 2) (.inl (2, 3, upd hs k 1)) = σ1 at f0 h2 m0 m1 ⊢
  refine Ev.iconst (v := 0) rfl (by decide) ?_
  refine Ev.istore_n rfl rfl rfl ?_
  refine Ev.fg (L := [some (.ref y), some (.int (nI k)), some (.int (nI 0))]) ?_ (gs rfl (gs rfl (gs (congrArg Value.int (rfl : (0 : Int32) = nI 0).symm) gz)))
  refine lp (fun (q : Nat) (z : (Nat → Int32)) => ∀ τ' : ex_S, frm σ1 τ' (y + 1) (y + 1 + 1) → τ'.2 (y + 1) = some (.inl (0, 4500, z)) → Ev Γ 0 0 m_M_image 0 0 20 [some (.ref y), some (.int (nI k)), some (.int (nI q))] [] τ' Q) (F_m_copies_2 0 (1090 * (k + 1)) A) (1090) (fun q z hq hx => ?_) (1090) 0 A (by omega) ?_ σ1 frm.rf m1
  · skip
    intro τ' fr m1
    have m0 := frm.cell fr m0 (by omega)
    refine Ev.iload_n rfl rfl ?_
    refine Ev.sipush (v := 1090) rfl (by decide) ?_
    refine Ev.jge (tgt := 53) rfl (by decide) (fun c5 => absurd (nI_lt hq (by omega)) c5) (fun c5 => ?_)
    refine Ev.aload_n rfl rfl ?_
    refine Ev.getf rfl rfl m0 rfl ?_
    refine Ev.sipush (v := 1090) rfl (by decide) ?_
    refine Ev.iload_n rfl rfl ?_
    refine Ev.iconst (v := 1) rfl (by decide) ?_
    refine Ev.iadd rfl ?_
    refine Ev.imul rfl ?_
    refine Ev.iload_n rfl rfl ?_
    refine Ev.iadd rfl ?_
    refine Ev.aload_n rfl rfl ?_
    refine Ev.getf rfl rfl m0 rfl ?_
    refine Ev.iload_n rfl rfl ?_
    refine Ev.ialdN (k := 0 + q) rfl m1 (by rw [Nat.zero_add]) ⟨(by omega), by decide⟩ ?_
    refine Ev.iastE (k := 1090 * (k + 1) + q) rfl m1 im_ix ⟨(by omega), by decide⟩ (fun τ1 f1 m1 => ?_)
    have fr := fr.step f1 (by omega) (by omega)
    refine Ev.iinc (d := 1) rfl rfl rfl (by decide) rfl ?_
    refine Ev.goto (tgt := 20) rfl (by decide) ?_
    have hF : (F_m_copies_2 0 (1090 * (k + 1)) A) q z = (upd z ((1090 * (k + 1)) + q) (z (0 + q))) := by rfl
    rw [hF] at hx
    exact (hx τ1 fr m1).fg (gs rfl (gs rfl (gs (congrArg Value.int (show nI (q + 1) = (nI q) + (1 : Int32) from (nq_to (a := q + 1) (nq_add (a := q) (b := 1) rfl (rfl : (1 : Int32) = nI 1)) (by omega)).symm)) gz)))
  · skip
    intro τ' fr m1
    refine Ev.iload_n rfl rfl ?_
    refine Ev.sipush (v := 1090) rfl (by decide) ?_
    refine Ev.jge (tgt := 53) rfl (by decide) (fun c5 => ?_) (fun c5 => absurd c5 (nI_nlt (Nat.le_refl _) (by omega)))
    refine Ev.iconst (v := 1) rfl (by decide) ?_
    refine Ev.iret (ty := .boolean) rfl rfl rfl (Nat.le_refl _) (Nat.le_refl _) ?_
    rw [← hQ]
    exact ⟨rfl, f0.step fr (by omega) (by omega), m1, (fr.2 _ (by omega)).trans h2⟩
end
end
