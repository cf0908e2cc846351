/-! Texts: what is read stays a school, a plan; the lines of a text one after the other. -/
noncomputable section
/-- partners by pairs, but for those of X -/
def mtx (n : Nat) (f : Nat → Int32) (X : Nat → Prop) : Prop := ∀ i, i < n → ¬ X i → f i = -1 ∨ ∃ q, q < n ∧ q ≠ i ∧ ¬ X q ∧ f i = nI q ∧ f q = nI i
theorem mtx_lv {n b : Nat} {f : Nat → Int32} {X : Nat → Prop} (hn : n ≤ 16) (h : mtx n f X) (hb : b < n) (hX : ¬ X b) : mtx n (lvF n f (f b)) (fun i => X i ∨ i = b) := by
  intro i hi hXi
  have hi1 : ¬ X i := fun c => hXi (Or.inl c)
  have hib : ¬ i = b := fun c => hXi (Or.inr c)
  have inj : ∀ a c, a < n → c < n → nI a = nI c → a = c := fun a c ha hc e => nI_injL (by omega) (by omega) e
  rcases h b hb hX with e | ⟨p, p1, p2, p3, p4, p5⟩
  · rw [e, lvF_m1]
    rcases h i hi hi1 with c | ⟨q, q1, q2, q3, q4, q5⟩
    · exact Or.inl c
    · refine Or.inr ⟨q, q1, q2, fun c => ?_, q4, q5⟩
      rcases c with c | c
      · exact q3 c
      · rw [c, e] at q5
        exact absurd q5.symm (nI_m1 (by omega))
  · rw [p4, lvF_n p1 (by omega)]
    by_cases c : i = p
    · subst c
      exact Or.inl pk_us
    · rw [pk_un c]
      rcases h i hi hi1 with d | ⟨q, q1, q2, q3, q4, q5⟩
      · exact Or.inl d
      · have hqb : ¬ q = b := fun e => by
          rw [e, p4] at q5
          exact c (inj _ _ hi p1 q5.symm)
        have hqp : ¬ q = p := fun e => by
          rw [e, p5] at q5
          exact hib (inj _ _ hi hb q5.symm)
        refine Or.inr ⟨q, q1, q2, fun c => c.elim q3 hqb, q4, ?_⟩
        rw [pk_un hqp]
        exact q5
theorem mtx_cpl {n a b : Nat} {f : Nat → Int32} (hn : n ≤ 16) (h : ∀ i, i < n → f i = -1 ∨ ∃ q, q < n ∧ q ≠ i ∧ f i = nI q ∧ f q = nI i) (ha : a < n) (hb : b < n) (hab : b ≠ a) : ∀ i, i < n → cplF n f a b i = -1 ∨ ∃ q, q < n ∧ q ≠ i ∧ cplF n f a b i = nI q ∧ cplF n f a b q = nI i := by
  have m0 : mtx n f (fun _ => False) := fun i hi _ => (h i hi).imp id (fun ⟨q, q1, q2, q3, q4⟩ => ⟨q, q1, q2, fun c => c, q3, q4⟩)
  have m1 := mtx_lv hn m0 ha (fun c => c)
  have m2 := mtx_lv hn m1 hb (fun c => c.elim id hab)
  intro i hi
  unfold cplF
  by_cases c : i = b
  · subst c
    refine Or.inr ⟨a, ha, fun e => hab e.symm, pk_us, ?_⟩
    rw [pk_un (fun e => hab e.symm), pk_us]
  · rw [pk_un c]
    by_cases d : i = a
    · subst d
      exact Or.inr ⟨b, hb, hab, pk_us, pk_us⟩
    · rw [pk_un d]
      rcases m2 i hi (fun e => e.elim (fun e => e.elim id d) c) with e | ⟨q, q1, q2, q3, q4, q5⟩
      · exact Or.inl e
      · have hqb : ¬ q = b := fun e => q3 (Or.inr e)
        have hqa : ¬ q = a := fun e => q3 (Or.inl (Or.inr e))
        refine Or.inr ⟨q, q1, q2, q4, ?_⟩
        rw [pk_un hqb, pk_un hqa]
        exact q5
theorem gds_r {k j n0 L v : Nat} (hg : gds k j n0 L v = true) (h1 : k ≠ 1) (h2 : ¬ (k = 2 ∧ j = 0)) (h3 : ¬ (k = 7 ∧ j = 1)) : LOl.getD (k * 4 + j) 0 ≤ v ∧ v ≤ HIl.getD (k * 4 + j) 0 := by
  unfold gds at hg
  rw [if_neg h1, if_neg h2, if_neg h3] at hg
  simp at hg
  exact hg
section
variable {S : Sch} {nn : Nat → Nat}
theorem wS_0 (hw : wS S) (hg : ∀ j, j < 3 → gds 0 j (nn 0) S.1 (nn j) = true) (h16 : S.1 < 16) : wS (LnF 0 nn S) := by
  obtain ⟨w1, w2, w3, w4, w5, r0, r1, r2, r3, r23, r4, r5, r6, r7, r8, r9, r10⟩ := hw
  have a0 : 0 ≤ nn 0 ∧ nn 0 ≤ 11 := gds_r (hg 0 (by decide)) (by decide) (by decide) (by decide)
  have a1 : 1 ≤ nn 1 ∧ nn 1 ≤ 63 := gds_r (hg 1 (by decide)) (by decide) (by decide) (by decide)
  have a2 : 0 ≤ nn 2 ∧ nn 2 ≤ 999 := gds_r (hg 2 (by decide)) (by decide) (by decide) (by decide)
  refine ⟨h16, w2, fun i hi => ?_, w4, w5, r0, r1, r2, r3, r23, r4, r5, r6, r7, r8, r9, r10⟩
  have hi : i < S.1 + 1 := hi
  show rg (upd (S.2.2 0) S.1 (nI (nn 0)) i) 0 11 ∧ rg (upd (S.2.2 1) S.1 (nI (nn 1)) i) 1 63 ∧ rg (upd (S.2.2 2) S.1 (nI (nn 2)) i) 0 999 ∧ (upd (S.2.2 3) S.1 (-1) i = -1 ∨ ∃ q, q < S.1 + 1 ∧ q ≠ i ∧ upd (S.2.2 3) S.1 (-1) i = nI q ∧ upd (S.2.2 3) S.1 (-1) q = nI i) ∧ rg (upd (S.2.2 4) S.1 0 i) 0 100
  by_cases e : i = S.1
  · subst e
    rw [pk_us, pk_us, pk_us, pk_us, pk_us]
    exact ⟨(rg_nI (by omega) (by omega) (by omega)), (rg_nI (by omega) (by omega) (by omega)), (rg_nI (by omega) (by omega) (by omega)), Or.inl rfl, ⟨by decide, by decide⟩⟩
  · rw [pk_un e, pk_un e, pk_un e, pk_un e, pk_un e]
    obtain ⟨b0, b1, b2, b3, b4⟩ := w3 i (by omega)
    refine ⟨b0, b1, b2, b3.imp id (fun ⟨q, q1, q2, q3, q4⟩ => ⟨q, by omega, q2, q3, ?_⟩), b4⟩
    rw [pk_un (by omega)]
    exact q4
theorem wS_1 (hw : wS S) (hu : nn 0 < S.1) (hv : nn 1 < S.1) (hne : nn 1 ≠ nn 0) : wS (LnF 1 nn S) := by
  obtain ⟨w1, w2, w3, w4, w5, r0, r1, r2, r3, r23, r4, r5, r6, r7, r8, r9, r10⟩ := hw
  refine ⟨w1, w2, fun i hi => ?_, w4, w5, r0, r1, r2, r3, r23, r4, r5, r6, r7, r8, r9, r10⟩
  obtain ⟨b0, b1, b2, b3, b4⟩ := w3 i hi
  exact ⟨b0, b1, b2, mtx_cpl w1 (fun i hi => (w3 i hi).2.2.2.1) hu hv hne i hi, b4⟩
theorem wS_2 (hw : wS S) (h1 : nn 1 ≤ 100) : wS (LnF 2 nn S) := by
  obtain ⟨w1, w2, w3, w4, w5, r0, r1, r2, r3, r23, r4, r5, r6, r7, r8, r9, r10⟩ := hw
  refine ⟨w1, w2, fun i hi => ?_, w4, w5, r0, r1, r2, r3, r23, r4, r5, r6, r7, r8, r9, r10⟩
  obtain ⟨b0, b1, b2, b3, b4⟩ := w3 i hi
  refine ⟨b0, b1, b2, b3, ?_⟩
  show rg (upd (S.2.2 4) (nn 0) (nI (nn 1)) i) 0 100
  by_cases e : i = nn 0
  · subst e
    rw [pk_us]
    exact (rg_nI (by omega) (by omega) (by omega))
  · rw [pk_un e]
    exact b4
theorem wS_3 (hw : wS S) (hg : ∀ j, j < 2 → gds 3 j (nn 0) S.1 (nn j) = true) (h5 : S.2.1 < 5) : wS (LnF 3 nn S) := by
  obtain ⟨w1, w2, w3, w4, w5, r0, r1, r2, r3, r23, r4, r5, r6, r7, r8, r9, r10⟩ := hw
  have a0 : 1 ≤ nn 0 ∧ nn 0 ≤ 63 := gds_r (hg 0 (by decide)) (by decide) (by decide) (by decide)
  have a1 : 0 ≤ nn 1 ∧ nn 1 ≤ 3 := gds_r (hg 1 (by decide)) (by decide) (by decide) (by decide)
  refine ⟨w1, h5, w3, fun i hi => ?_, w5, r0, r1, r2, r3, r23, r4, r5, r6, r7, r8, r9, r10⟩
  have hi : i < S.2.1 + 1 := hi
  show rg (upd (S.2.2 5) S.2.1 (nI (nn 0)) i) 1 63 ∧ rg (upd (S.2.2 6) S.2.1 (nI (nn 1)) i) 0 3
  by_cases e : i = S.2.1
  · subst e
    rw [pk_us, pk_us]
    exact ⟨(rg_nI (by omega) (by omega) (by omega)), (rg_nI (by omega) (by omega) (by omega))⟩
  · rw [pk_un e, pk_un e]
    exact w4 i (by omega)
theorem wS_4 (hw : wS S) (hg : ∀ j, j < 3 → gds 4 j (nn 0) S.1 (nn j) = true) : wS (LnF 4 nn S) := by
  obtain ⟨w1, w2, w3, w4, w5, r0, r1, r2, r3, r23, r4, r5, r6, r7, r8, r9, r10⟩ := hw
  have a0 : 0 ≤ nn 0 ∧ nn 0 ≤ 3 := gds_r (hg 0 (by decide)) (by decide) (by decide) (by decide)
  have a1 : 0 ≤ nn 1 ∧ nn 1 ≤ 99 := gds_r (hg 1 (by decide)) (by decide) (by decide) (by decide)
  have a2 : 0 ≤ nn 2 ∧ nn 2 ≤ 100 := gds_r (hg 2 (by decide)) (by decide) (by decide) (by decide)
  refine ⟨w1, w2, w3, w4, fun d hd => ?_, r0, r1, r2, r3, r23, r4, r5, r6, r7, r8, r9, r10⟩
  show rg (upd (S.2.2 7) (3 + nn 0) (nI (nn 1)) d) 0 99 ∧ rg (upd (S.2.2 8) (3 + nn 0) (nI (nn 2)) d) 0 100
  by_cases e : d = 3 + nn 0
  · subst e
    rw [pk_us, pk_us]
    exact ⟨(rg_nI (by omega) (by omega) (by omega)), (rg_nI (by omega) (by omega) (by omega))⟩
  · rw [pk_un e, pk_un e]
    exact w5 d hd
theorem wS_5 (hw : wS S) (hg : ∀ j, j < 3 → gds 5 j (nn 0) S.1 (nn j) = true) : wS (LnF 5 nn S) := by
  obtain ⟨w1, w2, w3, w4, w5, r0, r1, r2, r3, r23, r4, r5, r6, r7, r8, r9, r10⟩ := hw
  have a0 : 1 ≤ nn 0 ∧ nn 0 ≤ 3 := gds_r (hg 0 (by decide)) (by decide) (by decide) (by decide)
  have a1 : 0 ≤ nn 1 ∧ nn 1 ≤ 99 := gds_r (hg 1 (by decide)) (by decide) (by decide) (by decide)
  have a2 : 0 ≤ nn 2 ∧ nn 2 ≤ 100 := gds_r (hg 2 (by decide)) (by decide) (by decide) (by decide)
  refine ⟨w1, w2, w3, w4, fun d hd => ?_, r0, r1, r2, r3, r23, r4, r5, r6, r7, r8, r9, r10⟩
  show rg (upd (S.2.2 7) (3 - nn 0) (nI (nn 1)) d) 0 99 ∧ rg (upd (S.2.2 8) (3 - nn 0) (nI (nn 2)) d) 0 100
  by_cases e : d = 3 - nn 0
  · subst e
    rw [pk_us, pk_us]
    exact ⟨(rg_nI (by omega) (by omega) (by omega)), (rg_nI (by omega) (by omega) (by omega))⟩
  · rw [pk_un e, pk_un e]
    exact w5 d hd
theorem wS_6 (hw : wS S) (hg : ∀ j, j < 2 → gds 6 j (nn 0) S.1 (nn j) = true) : wS (LnF 6 nn S) := by
  obtain ⟨w1, w2, w3, w4, w5, r0, r1, r2, r3, r23, r4, r5, r6, r7, r8, r9, r10⟩ := hw
  have a0 : 1 ≤ nn 0 ∧ nn 0 ≤ 15 := gds_r (hg 0 (by decide)) (by decide) (by decide) (by decide)
  have a1 : 0 ≤ nn 1 ∧ nn 1 ≤ 20 := gds_r (hg 1 (by decide)) (by decide) (by decide) (by decide)
  exact ⟨w1, w2, w3, w4, w5, (rg_nI (by omega) (by omega) (by omega)), (rg_nI (by omega) (by omega) (by omega)), r2, r3, r23, r4, r5, r6, r7, r8, r9, r10⟩
theorem wS_7 (hw : wS S) (a0 : 1 ≤ nn 0 ∧ nn 0 ≤ 15) (a1 : nn 0 ≤ nn 1 ∧ nn 1 ≤ 15) : wS (LnF 7 nn S) := by
  obtain ⟨w1, w2, w3, w4, w5, r0, r1, r2, r3, r23, r4, r5, r6, r7, r8, r9, r10⟩ := hw
  exact ⟨w1, w2, w3, w4, w5, r0, r1, (rg_nI (by omega) (by omega) (by omega)), (rg_nI (by omega) (by omega) (by omega)), nI_le (by omega) (by omega), r4, r5, r6, r7, r8, r9, r10⟩
theorem wS_8 (hw : wS S) (hg : ∀ j, j < 1 → gds 8 j (nn 0) S.1 (nn j) = true) : wS (LnF 8 nn S) := by
  obtain ⟨w1, w2, w3, w4, w5, r0, r1, r2, r3, r23, r4, r5, r6, r7, r8, r9, r10⟩ := hw
  have a0 : 1 ≤ nn 0 ∧ nn 0 ≤ 9 := gds_r (hg 0 (by decide)) (by decide) (by decide) (by decide)
  exact ⟨w1, w2, w3, w4, w5, r0, r1, r2, r3, r23, (rg_nI (by omega) (by omega) (by omega)), r5, r6, r7, r8, r9, r10⟩
theorem wS_9 (hw : wS S) (hg : ∀ j, j < 1 → gds 9 j (nn 0) S.1 (nn j) = true) : wS (LnF 9 nn S) := by
  obtain ⟨w1, w2, w3, w4, w5, r0, r1, r2, r3, r23, r4, r5, r6, r7, r8, r9, r10⟩ := hw
  have a0 : 0 ≤ nn 0 ∧ nn 0 ≤ 999 := gds_r (hg 0 (by decide)) (by decide) (by decide) (by decide)
  exact ⟨w1, w2, w3, w4, w5, r0, r1, r2, r3, r23, r4, (rg_nI (by omega) (by omega) (by omega)), r6, r7, r8, r9, r10⟩
theorem wS_10 (hw : wS S) (hg : ∀ j, j < 1 → gds 10 j (nn 0) S.1 (nn j) = true) : wS (LnF 10 nn S) := by
  obtain ⟨w1, w2, w3, w4, w5, r0, r1, r2, r3, r23, r4, r5, r6, r7, r8, r9, r10⟩ := hw
  have a0 : 0 ≤ nn 0 ∧ nn 0 ≤ 999 := gds_r (hg 0 (by decide)) (by decide) (by decide) (by decide)
  exact ⟨w1, w2, w3, w4, w5, r0, r1, r2, r3, r23, r4, r5, (rg_nI (by omega) (by omega) (by omega)), r7, r8, r9, r10⟩
theorem wS_11 (hw : wS S) (hg : ∀ j, j < 1 → gds 11 j (nn 0) S.1 (nn j) = true) : wS (LnF 11 nn S) := by
  obtain ⟨w1, w2, w3, w4, w5, r0, r1, r2, r3, r23, r4, r5, r6, r7, r8, r9, r10⟩ := hw
  have a0 : 1 ≤ nn 0 ∧ nn 0 ≤ 30 := gds_r (hg 0 (by decide)) (by decide) (by decide) (by decide)
  exact ⟨w1, w2, w3, w4, w5, r0, r1, r2, r3, r23, r4, r5, r6, (rg_nI (by omega) (by omega) (by omega)), r8, r9, r10⟩
theorem wS_12 (hw : wS S) (hg : ∀ j, j < 1 → gds 12 j (nn 0) S.1 (nn j) = true) : wS (LnF 12 nn S) := by
  obtain ⟨w1, w2, w3, w4, w5, r0, r1, r2, r3, r23, r4, r5, r6, r7, r8, r9, r10⟩ := hw
  have a0 : 0 ≤ nn 0 ∧ nn 0 ≤ 99 := gds_r (hg 0 (by decide)) (by decide) (by decide) (by decide)
  exact ⟨w1, w2, w3, w4, w5, r0, r1, r2, r3, r23, r4, r5, r6, r7, (rg_nI (by omega) (by omega) (by omega)), r9, r10⟩
theorem wS_13 (hw : wS S) (hg : ∀ j, j < 1 → gds 13 j (nn 0) S.1 (nn j) = true) : wS (LnF 13 nn S) := by
  obtain ⟨w1, w2, w3, w4, w5, r0, r1, r2, r3, r23, r4, r5, r6, r7, r8, r9, r10⟩ := hw
  have a0 : 0 ≤ nn 0 ∧ nn 0 ≤ 99 := gds_r (hg 0 (by decide)) (by decide) (by decide) (by decide)
  exact ⟨w1, w2, w3, w4, w5, r0, r1, r2, r3, r23, r4, r5, r6, r7, r8, (rg_nI (by omega) (by omega) (by omega)), r10⟩
theorem wS_14 (hw : wS S) (hg : ∀ j, j < 1 → gds 14 j (nn 0) S.1 (nn j) = true) : wS (LnF 14 nn S) := by
  obtain ⟨w1, w2, w3, w4, w5, r0, r1, r2, r3, r23, r4, r5, r6, r7, r8, r9, r10⟩ := hw
  have a0 : 0 ≤ nn 0 ∧ nn 0 ≤ 200 := gds_r (hg 0 (by decide)) (by decide) (by decide) (by decide)
  exact ⟨w1, w2, w3, w4, w5, r0, r1, r2, r3, r23, r4, r5, r6, r7, r8, r9, (rg_nI (by omega) (by omega) (by omega))⟩
theorem gds_1n {n0 L v : Nat} (h : gds 1 1 n0 L v = true) : v ≠ n0 := by
  have b : (decide (v < L) && (decide (1 = 0) || !decide (v = n0))) = true := h
  simp at b
  exact b.2
theorem gds_7 {n0 L v : Nat} (h : gds 7 1 n0 L v = true) : n0 ≤ v ∧ v ≤ 15 := by
  have b : (decide (1 ≤ v) && decide (v ≤ 15) && decide (n0 ≤ v)) = true := h
  simp at b
  exact ⟨b.2, b.1.2⟩
theorem LnF_wS {k : Nat} (hk : k < 15) (hw : wS S) (h0 : k = 0 → S.1 < 16) (h3 : k = 3 → S.2.1 < 5) (hg : ∀ j, j < NUl.getD k 0 → gds k j (nn 0) S.1 (nn j) = true) : wS (LnF k nn S) := by
  match k, hk with
  | 0, _ => exact wS_0 hw hg (h0 rfl)
  | 1, _ => exact wS_1 hw (gds_1 (hg 0 (by decide)) (hg 1 (by decide))).1 (gds_1 (hg 0 (by decide)) (hg 1 (by decide))).2 (gds_1n (hg 1 (by decide)))
  | 2, _ => exact wS_2 hw (gds_r (hg 1 (by decide)) (by decide) (by decide) (by decide)).2
  | 3, _ => exact wS_3 hw hg (h3 rfl)
  | 4, _ => exact wS_4 hw hg
  | 5, _ => exact wS_5 hw hg
  | 6, _ => exact wS_6 hw hg
  | 7, _ => exact wS_7 hw (gds_r (hg 0 (by decide)) (by decide) (by decide) (by decide)) (gds_7 (hg 1 (by decide)))
  | 8, _ => exact wS_8 hw hg
  | 9, _ => exact wS_9 hw hg
  | 10, _ => exact wS_10 hw hg
  | 11, _ => exact wS_11 hw hg
  | 12, _ => exact wS_12 hw hg
  | 13, _ => exact wS_13 hw hg
  | 14, _ => exact wS_14 hw hg
end
/-- a line of a plan keeps it a plan -/
theorem LnP_wP {P : Pln} {k : Nat} {nn : Nat → Nat} (hk : 15 ≤ k ∧ k < 20) (hw : wP P) (h6 : P.1 < 6) (hg : ∀ j, j < NUl.getD k 0 → gds k j (nn 0) 0 (nn j) = true) : wP (LnP k nn P) := by
  have key : ∀ q, q < 5 → 3 ≤ NUl.getD (15 + q) 0 ∧ (q = 1 → NUl.getD (15 + q) 0 = 4) ∧ HIl.getD ((15 + q) * 4 + 0) 0 = 4 ∧ HIl.getD ((15 + q) * 4 + 1) 0 = 5 ∧ HIl.getD ((15 + q) * 4 + 2) 0 = 11 ∧ (q = 1 → HIl.getD ((15 + q) * 4 + 3) 0 = 11) := by decide
  obtain ⟨q, rfl⟩ : ∃ q, k = 15 + q := ⟨k - 15, by omega⟩
  obtain ⟨k1, k2, k3, k4, k5, k6⟩ := key q (by omega)
  have a0 := (gds_r (hg 0 (by omega)) (by omega) (by omega) (by omega)).2
  have a1 := (gds_r (hg 1 (by omega)) (by omega) (by omega) (by omega)).2
  have a2 := (gds_r (hg 2 (by omega)) (by omega) (by omega) (by omega)).2
  rw [k3] at a0
  rw [k4] at a1
  rw [k5] at a2
  refine ⟨h6, fun j hj => ?_⟩
  have hj : j < P.1 + 1 := hj
  show wL (if j = P.1 then _ else P.2 j)
  by_cases e : j = P.1
  · rw [if_pos e]
    refine ⟨(rg_nI (q := 15 + q - 15) (by omega) (by omega) (by omega)), (rg_nI (by omega) (by omega) (by omega)), (rg_nI (by omega) (by omega) (by omega)), (rg_nI (by omega) (by omega) (by omega)), ?_, ⟨(by decide : (0 : Int) ≤ (0 : Int32).toInt), (by decide : (0 : Int32).toInt ≤ 65535)⟩⟩
    show rg (if 15 + q = 16 then nI (nn 3) else -1) (-1) 11
    by_cases c : 15 + q = 16
    · rw [if_pos c]
      have a3 := (gds_r (hg 3 (by have := k2 (by omega); omega)) (by omega) (by omega) (by omega)).2
      rw [k6 (by omega)] at a3
      exact (rg_nI (by omega) (by omega) (by omega))
    · rw [if_neg c]
      exact ⟨by decide, by decide⟩
  · rw [if_neg e]
    exact hw.2 j (by omega)
theorem LnQ_wP {P : Pln} {m : Nat} (hm : m < 65536) (hw : wP P) : wP (LnQ (nI m) P) := by
  refine ⟨hw.1, fun j hj => ?_⟩
  have hj : j < P.1 := hj
  obtain ⟨c0, c1, c2, c3, c4, c5⟩ := hw.2 j hj
  show wL (if j + 1 = P.1 then L_set (P.2 j) 5 (P.2 j 5 ||| nI m) else P.2 j)
  by_cases e : j + 1 = P.1
  · rw [if_pos e]
    obtain ⟨w, w1, w2⟩ := rg_n c5 (by decide) (b := 65535) (by decide)
    refine ⟨c0, c1, c2, c3, c4, ?_⟩
    show rg (P.2 j 5 ||| nI m) 0 65535
    rw [w2, or_nI (by omega) (by omega)]
    have := Nat.or_lt_two_pow (n := 16) (x := w) (y := m) (by omega) (by omega)
    exact (rg_nI (by omega) (by omega) (by omega))
  · rw [if_neg e]
    exact ⟨c0, c1, c2, c3, c4, c5⟩
section
variable {U : Nat → Nat} {n : Nat} {s : Rs}
theorem msk_lt (e : Nat) (hw : Rw (chs U n s e) = false) (hf : Rf (chs U n s e) = 0) : ∃ m, m < 65536 ∧ msk U n s e = nI m := by
  induction e with
  | zero => exact ⟨0, by decide, rfl⟩
  | succ e ih =>
    obtain ⟨w, _, f, g, _⟩ := nst_f0 (s := chs U n s e) hw hf
    obtain ⟨m, m1, m2⟩ := ih w f
    have g : (decide (0 ≤ tV U n (Re (chs U n s e))) && decide (tV U n (Re (chs U n s e)) ≤ 15)) = true := g
    simp at g
    have hl := Nat.or_lt_two_pow (n := 16) (x := m) (y := 2 ^ tV U n (Re (chs U n s e))) (by omega) (Nat.pow_lt_pow_right (by decide) (by omega))
    refine ⟨m ||| 2 ^ tV U n (Re (chs U n s e)), by omega, ?_⟩
    show msk U n s e ||| (1 : Int32) <<< (nI (tV U n (Re (chs U n s e))) &&& 31) = _
    rw [m2, or_bit m1 (by omega)]
/-- how far a reading gets -/
theorem nst_re {g : Bool} (ht : txt U n) (h : Rok U n s) : Re s ≤ Re (nst U n g s) := by
  have a := tS0_le ht h.1
  have b := tE_le ht h.1
  unfold nst
  split
  · exact Nat.le_refl _
  · split
    · show Re s ≤ tE U n (Re s); omega
    · show Re s ≤ tE U n (Re s); omega
theorem chn_re {k L : Nat} (ht : txt U n) (h : Rok U n s) : ∀ j, Re s ≤ Re (chn U n k L s j)
  | 0 => Nat.le_refl _
  | j + 1 => Nat.le_trans (chn_re ht h j) (nst_re ht (chn_ok ht h j))
theorem chs_re (ht : txt U n) (h : Rok U n s) : ∀ j, Re s ≤ Re (chs U n s j)
  | 0 => Nat.le_refl _
  | j + 1 => Nat.le_trans (chs_re ht h j) (nst_re ht (chs_ok ht h j))
theorem rel_ok (ht : txt U n) (h : Rok U n s) : Rok U n (rel U n s) := by
  unfold rel
  split
  · rename_i c
    refine ⟨(tE_le ht h.1).2, h.2.1, fun _ f => ?_⟩
    obtain ⟨q, q1, q2⟩ := h.2.2 c.1 f
    exact ⟨q, q1, Nat.lt_trans q2 (tE_st ht h.1 (by omega))⟩
  · exact ⟨h.1, h.2.1, fun c => (nomatch c)⟩
theorem rel_re (ht : txt U n) (h : Rok U n s) (hw : Rw (rel U n s) = false) : Re s < Re (rel U n s) ∧ Rw s = false ∧ Rf (rel U n s) = Rf s := by
  unfold rel at hw ⊢
  split
  · rename_i c
    refine ⟨?_, c.1, rfl⟩
    show Re s < tE U n (Re s)
    have := tE_lt ht h.1 (by omega)
    have := (tS0_le ht h.1).1
    omega
  · rename_i c
    rw [if_neg c] at hw
    exact (nomatch hw)
/-- one line of a school; the lines -/
def stS (U : Nat → Nat) (n : Nat) (q : Rs × Sch) : Rs × Sch := if tK U n (Re q.1) = 3 ∧ 1 ≤ tW U n (Re q.1) ∧ tW U n (Re q.1) ≤ 15 then (rel U n (lnX U n (tW U n (Re q.1) - 1) q.2 q.1), if Rw (rel U n (lnX U n (tW U n (Re q.1) - 1) q.2 q.1)) = false ∧ Rf (rel U n (lnX U n (tW U n (Re q.1) - 1) q.2 q.1)) = 0 then LnF (tW U n (Re q.1) - 1) (lnN U n (tW U n (Re q.1) - 1) q.2 q.1) q.2 else q.2) else ((true, Re q.1, Rf q.1, Rp q.1), q.2)
def qS (U : Nat → Nat) (n : Nat) (S : Sch) : Nat → Rs × Sch
  | 0 => ((false, 0, 0, -1), S)
  | i + 1 => stS U n (qS U n S i)
/-- one line of a plan; the lines -/
def wkP (w : Nat) : Nat := [18, 15, 17, 19, 16, 20].getD (w - 15) 0
def lpE (U : Nat → Nat) (n k : Nat) (P : Pln) (s : Rs) : Rs := if k = 20 then chs U n (lpS U n 20 P s) (sitC U n (lpS U n 20 P s)) else lpX U n k P s
def LpF (U : Nat → Nat) (n k : Nat) (P : Pln) (s : Rs) : Pln := if k = 20 then LnQ (msk U n (lpS U n 20 P s) (sitC U n (lpS U n 20 P s))) P else LnP k (lpN U n k P s) P
def stP (U : Nat → Nat) (n : Nat) (q : Rs × Pln) : Rs × Pln := if tK U n (Re q.1) = 3 ∧ 15 ≤ tW U n (Re q.1) ∧ tW U n (Re q.1) ≤ 20 then (rel U n (lpE U n (wkP (tW U n (Re q.1))) q.2 q.1), if Rw (rel U n (lpE U n (wkP (tW U n (Re q.1))) q.2 q.1)) = false ∧ Rf (rel U n (lpE U n (wkP (tW U n (Re q.1))) q.2 q.1)) = 0 then LpF U n (wkP (tW U n (Re q.1))) q.2 q.1 else q.2) else ((true, Re q.1, Rf q.1, Rp q.1), q.2)
def qP (U : Nat → Nat) (n : Nat) (P : Pln) : Nat → Rs × Pln
  | 0 => ((false, 0, 0, -1), P)
  | i + 1 => stP U n (qP U n P i)
theorem wkP_r : ∀ w, 15 ≤ w → w ≤ 20 → 15 ≤ wkP w ∧ wkP w ≤ 20 := by
  have h : ∀ w, w < 21 → 15 ≤ w → 15 ≤ wkP w ∧ wkP w ≤ 20 := by decide
  exact fun w h1 h2 => h w (by omega) h1
theorem lnS_f {k : Nat} {S : Sch} (ht : txt U n) (h : Rok U n s) (hw : Rw s = false) (hk : ¬ tK U n (Re s) = 0) : Rok U n (lnS U n k S s) ∧ Re (lnS U n k S s) = tE U n (Re s) ∧ Rw (lnS U n k S s) = false ∧ (Rf (lnS U n k S s) = 0 → (k = 0 → S.1 < 16) ∧ (k = 3 → S.2.1 < 5) ∧ Rf s = 0) := by
  refine ⟨lstS_ok (lw1_ok ht h hk hw) (tE_st ht h.1 hk), ?_, ?_, fun f => ?_⟩
  · unfold lnS lstS
    split
    · exact rnt_e
    · rfl
  · unfold lnS lstS
    split
    · exact rnt_w
    · rfl
  · unfold lnS lstS at f
    split at f
    · exact absurd f (rnt_f0 (by decide))
    · exact ⟨by omega, by omega, f⟩
theorem lpS_f {k : Nat} {P : Pln} (ht : txt U n) (h : Rok U n s) (hw : Rw s = false) (hk : ¬ tK U n (Re s) = 0) : Rok U n (lpS U n k P s) ∧ Re (lpS U n k P s) = tE U n (Re s) ∧ Rw (lpS U n k P s) = false ∧ (Rf (lpS U n k P s) = 0 → (15 ≤ k ∧ k < 20 → P.1 < 6) ∧ (k = 20 → 0 < P.1) ∧ Rf s = 0) := by
  refine ⟨lstP_ok (lw1_ok ht h hk hw) (tE_st ht h.1 hk), ?_, ?_, fun f => ?_⟩
  · unfold lpS lstP
    split
    · exact rnt_e
    · split
      · exact rnt_e
      · rfl
  · unfold lpS lstP
    split
    · exact rnt_w
    · split
      · exact rnt_w
      · rfl
  · unfold lpS lstP at f
    split at f
    · exact absurd f (rnt_f0 (by decide))
    · split at f
      · exact absurd f (rnt_f0 (by decide))
      · exact ⟨by omega, by omega, f⟩
theorem stS_ok {S : Sch} (ht : txt U n) (h : Rok U n s) (hw : Rw s = false) (hk : ¬ tK U n (Re s) = 0) : Rok U n (stS U n (s, S)).1 ∧ (Rw (stS U n (s, S)).1 = false → Re s < Re (stS U n (s, S)).1) := by
  unfold stS
  split
  · have hl := lnS_f (k := tW U n (Re s) - 1) (S := S) ht h hw hk
    have hx : Rok U n (lnX U n (tW U n (Re s) - 1) S s) := chn_ok ht hl.1 _
    refine ⟨rel_ok ht hx, fun q => ?_⟩
    have a := (rel_re ht hx q).1
    have b := chn_re (k := tW U n (Re s) - 1) (L := S.1) ht hl.1 (NUl.getD (tW U n (Re s) - 1) 0)
    rw [hl.2.1] at b
    have c := (tE_le ht h.1).1
    have d := (tS0_le ht h.1).1
    have b : tE U n (Re s) ≤ Re (lnX U n (tW U n (Re s) - 1) S s) := b
    show Re s < Re (rel U n (lnX U n (tW U n (Re s) - 1) S s))
    omega
  · exact ⟨⟨h.1, h.2.1, fun c => (nomatch c)⟩, fun c => (nomatch c)⟩
theorem lpE_ok {k : Nat} {P : Pln} (ht : txt U n) (h : Rok U n s) (hw : Rw s = false) (hk : ¬ tK U n (Re s) = 0) : Rok U n (lpE U n k P s) ∧ tE U n (Re s) ≤ Re (lpE U n k P s) := by
  unfold lpE
  split
  · have hl := lpS_f (k := 20) (P := P) ht h hw hk
    exact ⟨chs_ok ht hl.1 _, by rw [← hl.2.1]; exact chs_re ht hl.1 _⟩
  · have hl := lpS_f (k := k) (P := P) ht h hw hk
    exact ⟨chn_ok ht hl.1 _, by rw [← hl.2.1]; exact chn_re ht hl.1 _⟩
theorem stP_ok {P : Pln} (ht : txt U n) (h : Rok U n s) (hw : Rw s = false) (hk : ¬ tK U n (Re s) = 0) : Rok U n (stP U n (s, P)).1 ∧ (Rw (stP U n (s, P)).1 = false → Re s < Re (stP U n (s, P)).1) := by
  unfold stP
  split
  · obtain ⟨hx, b⟩ := lpE_ok (k := wkP (tW U n (Re s))) (P := P) ht h hw hk
    refine ⟨rel_ok ht hx, fun q => ?_⟩
    have a := (rel_re ht hx q).1
    have c := (tE_le ht h.1).1
    have d := (tS0_le ht h.1).1
    show Re s < Re (rel U n (lpE U n (wkP (tW U n (Re s))) P s))
    omega
  · exact ⟨⟨h.1, h.2.1, fun c => (nomatch c)⟩, fun c => (nomatch c)⟩
/-- where a text's lines end -/
def tEnd (U : Nat → Nat) (n : Nat) (f : Nat → Rs) (m : Nat) : Prop := (∀ i, i < m → Rw (f i) = false ∧ ¬ tK U n (Re (f i)) = 0) ∧ (Rw (f m) = true ∨ tK U n (Re (f m)) = 0) ∧ (∀ i, i ≤ m → Rok U n (f i)) ∧ m ≤ 600
theorem tEnd_ex {f : Nat → Rs} (ht : txt U n) (h0 : Rok U n (f 0)) (hw0 : Rw (f 0) = false) (hs : ∀ i, Rok U n (f i) → Rw (f i) = false → ¬ tK U n (Re (f i)) = 0 → Rok U n (f (i + 1)) ∧ (Rw (f (i + 1)) = false → Re (f i) < Re (f (i + 1)))) : ∃ m, tEnd U n f m := by
  have hn := ht.1
  have key : ∀ k, (∃ m, tEnd U n f m) ∨ ((∀ i, i < k → Rw (f i) = false ∧ ¬ tK U n (Re (f i)) = 0 ∧ i ≤ Re (f i)) ∧ (∀ i, i ≤ k → Rok U n (f i)) ∧ (Rw (f k) = false → k ≤ Re (f k)) ∧ k ≤ 600) := by
    intro k
    induction k with
    | zero => exact Or.inr ⟨fun i h => absurd h (Nat.not_lt_zero _), fun i hi => by rw [Nat.le_zero.mp hi]; exact h0, fun _ => Nat.zero_le _, Nat.zero_le _⟩
    | succ k ih =>
      rcases ih with c | ⟨c1, c2, c3, c4⟩
      · exact Or.inl c
      · by_cases d : Rw (f k) = true ∨ tK U n (Re (f k)) = 0
        · exact Or.inl ⟨k, fun i hi => ⟨(c1 i hi).1, (c1 i hi).2.1⟩, d, c2, c4⟩
        · have d1 : Rw (f k) = false := by
            cases hx : Rw (f k)
            · rfl
            · exact absurd (Or.inl hx) d
          have d2 : ¬ tK U n (Re (f k)) = 0 := fun e => d (Or.inr e)
          have hk := c2 k (Nat.le_refl _)
          obtain ⟨e1, e2⟩ := hs k hk d1 d2
          have c5 := c3 d1
          have e3 := tE_lt ht hk.1 d2
          have e4 := (tS0_le ht hk.1).1
          have e5 := (tE_le ht hk.1).2
          refine Or.inr ⟨fun i hi => ?_, fun i hi => ?_, fun w => ?_, by omega⟩
          · by_cases e : i = k
            · subst e
              exact ⟨d1, d2, c5⟩
            · exact c1 i (by omega)
          · by_cases e : i = k + 1
            · subst e
              exact e1
            · exact c2 i (by omega)
          · have := e2 w
            omega
  rcases key 601 with c | ⟨_, _, _, c⟩
  · exact c
  · omega
end
end
