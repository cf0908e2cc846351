/-! What the constructors make: the helpers of the class. -/
noncomputable section
def jR (σ : ex_S) (b : Nat) : Prop := σ.2 b = some (.inr (.inr (5, [.ref (b + 1), .ref (b + 12), .int 0, .int (-1), .null, .int 0, .int 0, .int 0, .int 0, .int 0, .ref (b + 20), .int 0]))) ∧ isS σ (b + 1) S0 ∧ isP σ (b + 12) P0 ∧ σ.2 (b + 20) = some (.inl (0, 4, fun _ => 0))
theorem jR.keep {σ τ : ex_S} {b : Nat} (h : jR σ b) (hk : ∀ q, b ≤ q → q < b + 21 → τ.2 q = σ.2 q) : jR τ b := by
  obtain ⟨h0, h1, h2, h3⟩ := h
  exact ⟨(hk _ (by omega) (by omega)).trans h0, h1.keep (fun q h1 h2 => hk q (by omega) (by omega)), h2.keep (fun q h1 h2 => hk q (by omega) (by omega)), (hk _ (by omega) (by omega)).trans h3⟩
def jN (σ : ex_S) (b : Nat) : Prop := σ.2 b = some (.inr (.inr (6, [.ref (b + 1), .ref (b + 2), .ref (b + 3), .ref (b + 4), .ref (b + 5), .ref (b + 6), .ref (b + 7), .int 0, .int 0, .int (-1)]))) ∧ σ.2 (b + 1) = some (.inl (0, 16, fun _ => 0)) ∧ σ.2 (b + 2) = some (.inl (0, 272, fun _ => 0)) ∧ σ.2 (b + 3) = some (.inl (0, 272, fun _ => 0)) ∧ σ.2 (b + 4) = some (.inl (0, 119, fun _ => 0)) ∧ σ.2 (b + 5) = some (.inl (0, 6, fun _ => 0)) ∧ σ.2 (b + 6) = some (.inl (0, 6, fun _ => 0)) ∧ isL σ (b + 7) L0
theorem jN.keep {σ τ : ex_S} {b : Nat} (h : jN σ b) (hk : ∀ q, b ≤ q → q < b + 8 → τ.2 q = σ.2 q) : jN τ b := by
  obtain ⟨h0, h1, h2, h3, h4, h5, h6, h7⟩ := h
  exact ⟨(hk _ (by omega) (by omega)).trans h0, (hk _ (by omega) (by omega)).trans h1, (hk _ (by omega) (by omega)).trans h2, (hk _ (by omega) (by omega)).trans h3, (hk _ (by omega) (by omega)).trans h4, (hk _ (by omega) (by omega)).trans h5, (hk _ (by omega) (by omega)).trans h6, h7.keep (fun q h1 h2 => hk q (by omega) (by omega))⟩
def jH (σ : ex_S) (b : Nat) : Prop := σ.2 b = some (.inr (.inr (7, [.ref (b + 1), .int 0, .ref (b + 2), .ref (b + 3)]))) ∧ σ.2 (b + 1) = some (.inl (0, 8, fun _ => 0)) ∧ σ.2 (b + 2) = some (.inl (0, 256, fun _ => 0)) ∧ σ.2 (b + 3) = some (.inl (0, 256, fun _ => 0))
theorem jH.keep {σ τ : ex_S} {b : Nat} (h : jH σ b) (hk : ∀ q, b ≤ q → q < b + 4 → τ.2 q = σ.2 q) : jH τ b := by
  obtain ⟨h0, h1, h2, h3⟩ := h
  exact ⟨(hk _ (by omega) (by omega)).trans h0, (hk _ (by omega) (by omega)).trans h1, (hk _ (by omega) (by omega)).trans h2, (hk _ (by omega) (by omega)).trans h3⟩
def jB (σ : ex_S) (b : Nat) : Prop := σ.2 b = some (.inr (.inr (8, [.ref (b + 1), .ref (b + 2), .ref (b + 3), .null, .int 0]))) ∧ σ.2 (b + 1) = some (.inl (0, 12, fun _ => 0)) ∧ σ.2 (b + 2) = some (.inl (0, 144, fun _ => 0)) ∧ σ.2 (b + 3) = some (.inl (0, 16, fun _ => 0))
theorem jB.keep {σ τ : ex_S} {b : Nat} (h : jB σ b) (hk : ∀ q, b ≤ q → q < b + 4 → τ.2 q = σ.2 q) : jB τ b := by
  obtain ⟨h0, h1, h2, h3⟩ := h
  exact ⟨(hk _ (by omega) (by omega)).trans h0, (hk _ (by omega) (by omega)).trans h1, (hk _ (by omega) (by omega)).trans h2, (hk _ (by omega) (by omega)).trans h3⟩
def jE (σ : ex_S) (b : Nat) : Prop := σ.2 b = some (.inr (.inr (9, [.int 0, .ref (b + 1), .ref (b + 2)]))) ∧ σ.2 (b + 1) = some (.inl (0, 6, fun _ => 0)) ∧ σ.2 (b + 2) = some (.inl (0, 6, fun _ => 0))
theorem jE.keep {σ τ : ex_S} {b : Nat} (h : jE σ b) (hk : ∀ q, b ≤ q → q < b + 3 → τ.2 q = σ.2 q) : jE τ b := by
  obtain ⟨h0, h1, h2⟩ := h
  exact ⟨(hk _ (by omega) (by omega)).trans h0, (hk _ (by omega) (by omega)).trans h1, (hk _ (by omega) (by omega)).trans h2⟩
section
variable {Γ : ex_G} {σ : ex_S} {b : Nat}
theorem Reader_init_ok (hz : σ.1 = b + 1) (c0 : σ.2 b = some (.inr (.inr (5, [.null, .null, .int 0, .int 0, .null, .int 0, .int 0, .int 0, .int 0, .int 0, .null, .int 0])))) : RetN Γ m_Reader_init 20 176 b σ 21 (fun τ => jR τ b) := by
  unfold RetN
  generalize hQ : (fun (r : Option Value) (τ : ex_S) => r = none ∧ τ.1 = b + 21 ∧ (∀ q, q < b → τ.2 q = σ.2 q) ∧ (fun τ : ex_S => jR τ b) τ) = Q
  refine Ret.start pm_116 rfl ?_
  have kp : ∀ q, q < b → σ.2 q = σ.2 q := fun _ _ => rfl
  refine Ev.aload_n rfl rfl ?_
  refine Ev.objInit rfl rfl rfl (Nat.le_of_ble_eq_true rfl) ?_
  refine Ev.aload_n rfl rfl ?_
  refine Ev.newcE (nf := 12) (fs := [.int 0, .null, .null, .null, .null, .null, .int 0, .null, .null, .null, .null, .null]) hz rfl rfl rfl rfl (fun j hj => by have hj : j < 12 := hj; match j, hj with | 0, _ => rfl | 1, _ => rfl | 2, _ => rfl | 3, _ => rfl | 4, _ => rfl | 5, _ => rfl | 6, _ => rfl | 7, _ => rfl | 8, _ => rfl | 9, _ => rfl | 10, _ => rfl | 11, _ => rfl) (by omega) (by omega) (fun τ1 hz1 hk c1 => ?_)
  replace c0 := (hk b (by omega)).trans c0
  replace kp : ∀ q, q < b → τ1.2 q = σ.2 q := fun q h => (hk q (by omega)).trans (kp q h)
  replace hz : τ1.1 = b + 2 := hz1
  clear hk hz1
  refine Ev.dup rfl rfl ?_
  refine Ev.mkIN rfl rfl rfl rfl ⟨by omega, by omega⟩ (School_init_ok hz c1) (fun τ2 hz1 hk c1 => ?_)
  replace c0 := (hk b (by omega)).trans c0
  replace kp : ∀ q, q < b → τ2.2 q = σ.2 q := fun q h => (hk q (by omega)).trans (kp q h)
  replace hz : τ2.1 = b + 12 := hz1
  clear hk hz1
  refine Ev.putFE rfl rfl c0 rfl rfl rfl rfl rfl (Nat.le_of_ble_eq_true rfl) (fun τ3 f1 q1 => ?_)
  replace c1 := c1.frm f1 (by omega)
  replace hz : τ3.1 = b + 12 := f1.1.trans hz
  replace kp : ∀ q, q < b → τ3.2 q = σ.2 q := fun q h => (f1.2 q (by omega)).trans (kp q h)
  replace c0 : τ3.2 b = some (.inr (.inr (5, [.ref (b + 1), .null, .int 0, .int 0, .null, .int 0, .int 0, .int 0, .int 0, .int 0, .null, .int 0]))) := q1
  clear f1 q1
  refine Ev.aload_n rfl rfl ?_
  refine Ev.newcE (nf := 2) (fs := [.int 0, .null]) hz rfl rfl rfl rfl (fun j hj => by have hj : j < 2 := hj; match j, hj with | 0, _ => rfl | 1, _ => rfl) (by omega) (by omega) (fun τ4 hz1 hk c12 => ?_)
  replace c0 := (hk b (by omega)).trans c0
  replace c1 := c1.keep (fun q h1 h2 => hk q (by omega))
  replace kp : ∀ q, q < b → τ4.2 q = σ.2 q := fun q h => (hk q (by omega)).trans (kp q h)
  replace hz : τ4.1 = b + 13 := hz1
  clear hk hz1
  refine Ev.dup rfl rfl ?_
  refine Ev.mkI rfl rfl rfl rfl ⟨by omega, by omega⟩ (Plan_init_ok hz c12) (fun τ5 hz1 hk c12 => ?_)
  replace c0 := (hk b (by omega)).trans c0
  replace c1 := c1.keep (fun q h1 h2 => hk q (by omega))
  replace kp : ∀ q, q < b → τ5.2 q = σ.2 q := fun q h => (hk q (by omega)).trans (kp q h)
  replace hz : τ5.1 = b + 20 := hz1
  clear hk hz1
  refine Ev.putFE rfl rfl c0 rfl rfl rfl rfl rfl (Nat.le_of_ble_eq_true rfl) (fun τ6 f1 q1 => ?_)
  replace c1 := c1.frm f1 (by omega)
  replace c12 := c12.frm f1 (by omega)
  replace hz : τ6.1 = b + 20 := f1.1.trans hz
  replace kp : ∀ q, q < b → τ6.2 q = σ.2 q := fun q h => (f1.2 q (by omega)).trans (kp q h)
  replace c0 : τ6.2 b = some (.inr (.inr (5, [.ref (b + 1), .ref (b + 12), .int 0, .int 0, .null, .int 0, .int 0, .int 0, .int 0, .int 0, .null, .int 0]))) := q1
  clear f1 q1
  refine Ev.aload_n rfl rfl ?_
  refine Ev.iconst (v := 0) rfl (by decide) ?_
  refine Ev.putE rfl rfl c0 rfl rfl rfl (Nat.le_of_ble_eq_true rfl) (fun τ7 f1 q1 => ?_)
  replace c1 := c1.frm f1 (by omega)
  replace c12 := c12.frm f1 (by omega)
  replace hz : τ7.1 = b + 20 := f1.1.trans hz
  replace kp : ∀ q, q < b → τ7.2 q = σ.2 q := fun q h => (f1.2 q (by omega)).trans (kp q h)
  replace c0 : τ7.2 b = some (.inr (.inr (5, [.ref (b + 1), .ref (b + 12), .int 0, .int 0, .null, .int 0, .int 0, .int 0, .int 0, .int 0, .null, .int 0]))) := q1
  clear f1 q1
  refine Ev.aload_n rfl rfl ?_
  refine Ev.iconst (v := (-1)) rfl (by decide) ?_
  refine Ev.putE rfl rfl c0 rfl rfl rfl (Nat.le_of_ble_eq_true rfl) (fun τ8 f1 q1 => ?_)
  replace c1 := c1.frm f1 (by omega)
  replace c12 := c12.frm f1 (by omega)
  replace hz : τ8.1 = b + 20 := f1.1.trans hz
  replace kp : ∀ q, q < b → τ8.2 q = σ.2 q := fun q h => (f1.2 q (by omega)).trans (kp q h)
  replace c0 : τ8.2 b = some (.inr (.inr (5, [.ref (b + 1), .ref (b + 12), .int 0, .int (-1), .null, .int 0, .int 0, .int 0, .int 0, .int 0, .null, .int 0]))) := q1
  clear f1 q1
  refine Ev.aload_n rfl rfl ?_
  refine Ev.null rfl ?_
  refine Ev.putE rfl rfl c0 rfl rfl rfl (Nat.le_of_ble_eq_true rfl) (fun τ9 f1 q1 => ?_)
  replace c1 := c1.frm f1 (by omega)
  replace c12 := c12.frm f1 (by omega)
  replace hz : τ9.1 = b + 20 := f1.1.trans hz
  replace kp : ∀ q, q < b → τ9.2 q = σ.2 q := fun q h => (f1.2 q (by omega)).trans (kp q h)
  replace c0 : τ9.2 b = some (.inr (.inr (5, [.ref (b + 1), .ref (b + 12), .int 0, .int (-1), .null, .int 0, .int 0, .int 0, .int 0, .int 0, .null, .int 0]))) := q1
  clear f1 q1
  refine Ev.aload_n rfl rfl ?_
  refine Ev.iconst (v := 0) rfl (by decide) ?_
  refine Ev.putE rfl rfl c0 rfl rfl rfl (Nat.le_of_ble_eq_true rfl) (fun τ10 f1 q1 => ?_)
  replace c1 := c1.frm f1 (by omega)
  replace c12 := c12.frm f1 (by omega)
  replace hz : τ10.1 = b + 20 := f1.1.trans hz
  replace kp : ∀ q, q < b → τ10.2 q = σ.2 q := fun q h => (f1.2 q (by omega)).trans (kp q h)
  replace c0 : τ10.2 b = some (.inr (.inr (5, [.ref (b + 1), .ref (b + 12), .int 0, .int (-1), .null, .int 0, .int 0, .int 0, .int 0, .int 0, .null, .int 0]))) := q1
  clear f1 q1
  refine Ev.aload_n rfl rfl ?_
  refine Ev.iconst (v := 0) rfl (by decide) ?_
  refine Ev.putE rfl rfl c0 rfl rfl rfl (Nat.le_of_ble_eq_true rfl) (fun τ11 f1 q1 => ?_)
  replace c1 := c1.frm f1 (by omega)
  replace c12 := c12.frm f1 (by omega)
  replace hz : τ11.1 = b + 20 := f1.1.trans hz
  replace kp : ∀ q, q < b → τ11.2 q = σ.2 q := fun q h => (f1.2 q (by omega)).trans (kp q h)
  replace c0 : τ11.2 b = some (.inr (.inr (5, [.ref (b + 1), .ref (b + 12), .int 0, .int (-1), .null, .int 0, .int 0, .int 0, .int 0, .int 0, .null, .int 0]))) := q1
  clear f1 q1
  refine Ev.aload_n rfl rfl ?_
  refine Ev.iconst (v := 0) rfl (by decide) ?_
  refine Ev.putE rfl rfl c0 rfl rfl rfl (Nat.le_of_ble_eq_true rfl) (fun τ12 f1 q1 => ?_)
  replace c1 := c1.frm f1 (by omega)
  replace c12 := c12.frm f1 (by omega)
  replace hz : τ12.1 = b + 20 := f1.1.trans hz
  replace kp : ∀ q, q < b → τ12.2 q = σ.2 q := fun q h => (f1.2 q (by omega)).trans (kp q h)
  replace c0 : τ12.2 b = some (.inr (.inr (5, [.ref (b + 1), .ref (b + 12), .int 0, .int (-1), .null, .int 0, .int 0, .int 0, .int 0, .int 0, .null, .int 0]))) := q1
  clear f1 q1
  refine Ev.aload_n rfl rfl ?_
  refine Ev.iconst (v := 0) rfl (by decide) ?_
  refine Ev.putE rfl rfl c0 rfl rfl rfl (Nat.le_of_ble_eq_true rfl) (fun τ13 f1 q1 => ?_)
  replace c1 := c1.frm f1 (by omega)
  replace c12 := c12.frm f1 (by omega)
  replace hz : τ13.1 = b + 20 := f1.1.trans hz
  replace kp : ∀ q, q < b → τ13.2 q = σ.2 q := fun q h => (f1.2 q (by omega)).trans (kp q h)
  replace c0 : τ13.2 b = some (.inr (.inr (5, [.ref (b + 1), .ref (b + 12), .int 0, .int (-1), .null, .int 0, .int 0, .int 0, .int 0, .int 0, .null, .int 0]))) := q1
  clear f1 q1
  refine Ev.aload_n rfl rfl ?_
  refine Ev.iconst (v := 0) rfl (by decide) ?_
  refine Ev.putE rfl rfl c0 rfl rfl rfl (Nat.le_of_ble_eq_true rfl) (fun τ14 f1 q1 => ?_)
  replace c1 := c1.frm f1 (by omega)
  replace c12 := c12.frm f1 (by omega)
  replace hz : τ14.1 = b + 20 := f1.1.trans hz
  replace kp : ∀ q, q < b → τ14.2 q = σ.2 q := fun q h => (f1.2 q (by omega)).trans (kp q h)
  replace c0 : τ14.2 b = some (.inr (.inr (5, [.ref (b + 1), .ref (b + 12), .int 0, .int (-1), .null, .int 0, .int 0, .int 0, .int 0, .int 0, .null, .int 0]))) := q1
  clear f1 q1
  refine Ev.aload_n rfl rfl ?_
  refine Ev.iconst (v := 4) rfl (by decide) ?_
  refine Ev.newaE (t := 0) (N := 4) hz rfl rfl rfl rfl rfl pa_0 (by decide) (by decide) (by decide) (by omega) (by omega) (fun τ15 hz1 hk c20 => ?_)
  replace c0 := (hk b (by omega)).trans c0
  replace c1 := c1.keep (fun q h1 h2 => hk q (by omega))
  replace c12 := c12.keep (fun q h1 h2 => hk q (by omega))
  replace kp : ∀ q, q < b → τ15.2 q = σ.2 q := fun q h => (hk q (by omega)).trans (kp q h)
  replace hz : τ15.1 = b + 21 := hz1
  clear hk hz1
  refine Ev.putFE rfl rfl c0 rfl rfl rfl rfl rfl (Nat.le_of_ble_eq_true rfl) (fun τ16 f1 q1 => ?_)
  replace c1 := c1.frm f1 (by omega)
  replace c12 := c12.frm f1 (by omega)
  replace c20 := f1.cell c20 (by omega)
  replace hz : τ16.1 = b + 21 := f1.1.trans hz
  replace kp : ∀ q, q < b → τ16.2 q = σ.2 q := fun q h => (f1.2 q (by omega)).trans (kp q h)
  replace c0 : τ16.2 b = some (.inr (.inr (5, [.ref (b + 1), .ref (b + 12), .int 0, .int (-1), .null, .int 0, .int 0, .int 0, .int 0, .int 0, .ref (b + 20), .int 0]))) := q1
  clear f1 q1
  refine Ev.aload_n rfl rfl ?_
  refine Ev.iconst (v := 0) rfl (by decide) ?_
  refine Ev.putE rfl rfl c0 rfl rfl rfl (Nat.le_of_ble_eq_true rfl) (fun τ17 f1 q1 => ?_)
  replace c1 := c1.frm f1 (by omega)
  replace c12 := c12.frm f1 (by omega)
  replace c20 := f1.cell c20 (by omega)
  replace hz : τ17.1 = b + 21 := f1.1.trans hz
  replace kp : ∀ q, q < b → τ17.2 q = σ.2 q := fun q h => (f1.2 q (by omega)).trans (kp q h)
  replace c0 : τ17.2 b = some (.inr (.inr (5, [.ref (b + 1), .ref (b + 12), .int 0, .int (-1), .null, .int 0, .int 0, .int 0, .int 0, .int 0, .ref (b + 20), .int 0]))) := q1
  clear f1 q1
  refine Ev.ret rfl rfl (by omega) (by omega) ?_
  rw [← hQ]
  exact ⟨rfl, hz, kp, ⟨c0, c1, c12, c20⟩⟩
theorem Line_init_ok (hz : σ.1 = b + 1) (c0 : σ.2 b = some (.inr (.inr (6, [.null, .null, .null, .null, .null, .null, .null, .int 0, .int 0, .int 0])))) : RetN Γ m_Line_init 7 697 b σ 8 (fun τ => jN τ b) := by
  unfold RetN
  generalize hQ : (fun (r : Option Value) (τ : ex_S) => r = none ∧ τ.1 = b + 8 ∧ (∀ q, q < b → τ.2 q = σ.2 q) ∧ (fun τ : ex_S => jN τ b) τ) = Q
  refine Ret.start pm_130 rfl ?_
  have kp : ∀ q, q < b → σ.2 q = σ.2 q := fun _ _ => rfl
  refine Ev.aload_n rfl rfl ?_
  refine Ev.objInit rfl rfl rfl (Nat.le_of_ble_eq_true rfl) ?_
  refine Ev.aload_n rfl rfl ?_
  refine Ev.bipush (v := 16) rfl (by decide) ?_
  refine Ev.newaE (t := 0) (N := 16) hz rfl rfl rfl rfl rfl pa_0 (by decide) (by decide) (by decide) (by omega) (by omega) (fun τ1 hz1 hk c1 => ?_)
  replace c0 := (hk b (by omega)).trans c0
  replace kp : ∀ q, q < b → τ1.2 q = σ.2 q := fun q h => (hk q (by omega)).trans (kp q h)
  replace hz : τ1.1 = b + 2 := hz1
  clear hk hz1
  refine Ev.putFE rfl rfl c0 rfl rfl rfl rfl rfl (Nat.le_of_ble_eq_true rfl) (fun τ2 f1 q1 => ?_)
  replace c1 := f1.cell c1 (by omega)
  replace hz : τ2.1 = b + 2 := f1.1.trans hz
  replace kp : ∀ q, q < b → τ2.2 q = σ.2 q := fun q h => (f1.2 q (by omega)).trans (kp q h)
  replace c0 : τ2.2 b = some (.inr (.inr (6, [.ref (b + 1), .null, .null, .null, .null, .null, .null, .int 0, .int 0, .int 0]))) := q1
  clear f1 q1
  refine Ev.aload_n rfl rfl ?_
  refine Ev.sipush (v := 272) rfl (by decide) ?_
  refine Ev.newaE (t := 0) (N := 272) hz rfl rfl rfl rfl rfl pa_0 (by decide) (by decide) (by decide) (by omega) (by omega) (fun τ3 hz1 hk c2 => ?_)
  replace c0 := (hk b (by omega)).trans c0
  replace c1 := (hk (b + 1) (by omega)).trans c1
  replace kp : ∀ q, q < b → τ3.2 q = σ.2 q := fun q h => (hk q (by omega)).trans (kp q h)
  replace hz : τ3.1 = b + 3 := hz1
  clear hk hz1
  refine Ev.putFE rfl rfl c0 rfl rfl rfl rfl rfl (Nat.le_of_ble_eq_true rfl) (fun τ4 f1 q1 => ?_)
  replace c1 := f1.cell c1 (by omega)
  replace c2 := f1.cell c2 (by omega)
  replace hz : τ4.1 = b + 3 := f1.1.trans hz
  replace kp : ∀ q, q < b → τ4.2 q = σ.2 q := fun q h => (f1.2 q (by omega)).trans (kp q h)
  replace c0 : τ4.2 b = some (.inr (.inr (6, [.ref (b + 1), .ref (b + 2), .null, .null, .null, .null, .null, .int 0, .int 0, .int 0]))) := q1
  clear f1 q1
  refine Ev.aload_n rfl rfl ?_
  refine Ev.sipush (v := 272) rfl (by decide) ?_
  refine Ev.newaE (t := 0) (N := 272) hz rfl rfl rfl rfl rfl pa_0 (by decide) (by decide) (by decide) (by omega) (by omega) (fun τ5 hz1 hk c3 => ?_)
  replace c0 := (hk b (by omega)).trans c0
  replace c1 := (hk (b + 1) (by omega)).trans c1
  replace c2 := (hk (b + 2) (by omega)).trans c2
  replace kp : ∀ q, q < b → τ5.2 q = σ.2 q := fun q h => (hk q (by omega)).trans (kp q h)
  replace hz : τ5.1 = b + 4 := hz1
  clear hk hz1
  refine Ev.putFE rfl rfl c0 rfl rfl rfl rfl rfl (Nat.le_of_ble_eq_true rfl) (fun τ6 f1 q1 => ?_)
  replace c1 := f1.cell c1 (by omega)
  replace c2 := f1.cell c2 (by omega)
  replace c3 := f1.cell c3 (by omega)
  replace hz : τ6.1 = b + 4 := f1.1.trans hz
  replace kp : ∀ q, q < b → τ6.2 q = σ.2 q := fun q h => (f1.2 q (by omega)).trans (kp q h)
  replace c0 : τ6.2 b = some (.inr (.inr (6, [.ref (b + 1), .ref (b + 2), .ref (b + 3), .null, .null, .null, .null, .int 0, .int 0, .int 0]))) := q1
  clear f1 q1
  refine Ev.aload_n rfl rfl ?_
  refine Ev.bipush (v := 119) rfl (by decide) ?_
  refine Ev.newaE (t := 0) (N := 119) hz rfl rfl rfl rfl rfl pa_0 (by decide) (by decide) (by decide) (by omega) (by omega) (fun τ7 hz1 hk c4 => ?_)
  replace c0 := (hk b (by omega)).trans c0
  replace c1 := (hk (b + 1) (by omega)).trans c1
  replace c2 := (hk (b + 2) (by omega)).trans c2
  replace c3 := (hk (b + 3) (by omega)).trans c3
  replace kp : ∀ q, q < b → τ7.2 q = σ.2 q := fun q h => (hk q (by omega)).trans (kp q h)
  replace hz : τ7.1 = b + 5 := hz1
  clear hk hz1
  refine Ev.putFE rfl rfl c0 rfl rfl rfl rfl rfl (Nat.le_of_ble_eq_true rfl) (fun τ8 f1 q1 => ?_)
  replace c1 := f1.cell c1 (by omega)
  replace c2 := f1.cell c2 (by omega)
  replace c3 := f1.cell c3 (by omega)
  replace c4 := f1.cell c4 (by omega)
  replace hz : τ8.1 = b + 5 := f1.1.trans hz
  replace kp : ∀ q, q < b → τ8.2 q = σ.2 q := fun q h => (f1.2 q (by omega)).trans (kp q h)
  replace c0 : τ8.2 b = some (.inr (.inr (6, [.ref (b + 1), .ref (b + 2), .ref (b + 3), .ref (b + 4), .null, .null, .null, .int 0, .int 0, .int 0]))) := q1
  clear f1 q1
  refine Ev.aload_n rfl rfl ?_
  refine Ev.bipush (v := 6) rfl (by decide) ?_
  refine Ev.newaE (t := 0) (N := 6) hz rfl rfl rfl rfl rfl pa_0 (by decide) (by decide) (by decide) (by omega) (by omega) (fun τ9 hz1 hk c5 => ?_)
  replace c0 := (hk b (by omega)).trans c0
  replace c1 := (hk (b + 1) (by omega)).trans c1
  replace c2 := (hk (b + 2) (by omega)).trans c2
  replace c3 := (hk (b + 3) (by omega)).trans c3
  replace c4 := (hk (b + 4) (by omega)).trans c4
  replace kp : ∀ q, q < b → τ9.2 q = σ.2 q := fun q h => (hk q (by omega)).trans (kp q h)
  replace hz : τ9.1 = b + 6 := hz1
  clear hk hz1
  refine Ev.putFE rfl rfl c0 rfl rfl rfl rfl rfl (Nat.le_of_ble_eq_true rfl) (fun τ10 f1 q1 => ?_)
  replace c1 := f1.cell c1 (by omega)
  replace c2 := f1.cell c2 (by omega)
  replace c3 := f1.cell c3 (by omega)
  replace c4 := f1.cell c4 (by omega)
  replace c5 := f1.cell c5 (by omega)
  replace hz : τ10.1 = b + 6 := f1.1.trans hz
  replace kp : ∀ q, q < b → τ10.2 q = σ.2 q := fun q h => (f1.2 q (by omega)).trans (kp q h)
  replace c0 : τ10.2 b = some (.inr (.inr (6, [.ref (b + 1), .ref (b + 2), .ref (b + 3), .ref (b + 4), .ref (b + 5), .null, .null, .int 0, .int 0, .int 0]))) := q1
  clear f1 q1
  refine Ev.aload_n rfl rfl ?_
  refine Ev.bipush (v := 6) rfl (by decide) ?_
  refine Ev.newaE (t := 0) (N := 6) hz rfl rfl rfl rfl rfl pa_0 (by decide) (by decide) (by decide) (by omega) (by omega) (fun τ11 hz1 hk c6 => ?_)
  replace c0 := (hk b (by omega)).trans c0
  replace c1 := (hk (b + 1) (by omega)).trans c1
  replace c2 := (hk (b + 2) (by omega)).trans c2
  replace c3 := (hk (b + 3) (by omega)).trans c3
  replace c4 := (hk (b + 4) (by omega)).trans c4
  replace c5 := (hk (b + 5) (by omega)).trans c5
  replace kp : ∀ q, q < b → τ11.2 q = σ.2 q := fun q h => (hk q (by omega)).trans (kp q h)
  replace hz : τ11.1 = b + 7 := hz1
  clear hk hz1
  refine Ev.putFE rfl rfl c0 rfl rfl rfl rfl rfl (Nat.le_of_ble_eq_true rfl) (fun τ12 f1 q1 => ?_)
  replace c1 := f1.cell c1 (by omega)
  replace c2 := f1.cell c2 (by omega)
  replace c3 := f1.cell c3 (by omega)
  replace c4 := f1.cell c4 (by omega)
  replace c5 := f1.cell c5 (by omega)
  replace c6 := f1.cell c6 (by omega)
  replace hz : τ12.1 = b + 7 := f1.1.trans hz
  replace kp : ∀ q, q < b → τ12.2 q = σ.2 q := fun q h => (f1.2 q (by omega)).trans (kp q h)
  replace c0 : τ12.2 b = some (.inr (.inr (6, [.ref (b + 1), .ref (b + 2), .ref (b + 3), .ref (b + 4), .ref (b + 5), .ref (b + 6), .null, .int 0, .int 0, .int 0]))) := q1
  clear f1 q1
  refine Ev.aload_n rfl rfl ?_
  refine Ev.newcE (nf := 6) (fs := [.int 0, .int 0, .int 0, .int 0, .int 0, .int 0]) hz rfl rfl rfl rfl (fun j hj => by have hj : j < 6 := hj; match j, hj with | 0, _ => rfl | 1, _ => rfl | 2, _ => rfl | 3, _ => rfl | 4, _ => rfl | 5, _ => rfl) (by omega) (by omega) (fun τ13 hz1 hk c7 => ?_)
  replace c0 := (hk b (by omega)).trans c0
  replace c1 := (hk (b + 1) (by omega)).trans c1
  replace c2 := (hk (b + 2) (by omega)).trans c2
  replace c3 := (hk (b + 3) (by omega)).trans c3
  replace c4 := (hk (b + 4) (by omega)).trans c4
  replace c5 := (hk (b + 5) (by omega)).trans c5
  replace c6 := (hk (b + 6) (by omega)).trans c6
  replace kp : ∀ q, q < b → τ13.2 q = σ.2 q := fun q h => (hk q (by omega)).trans (kp q h)
  replace hz : τ13.1 = b + 8 := hz1
  clear hk hz1
  refine Ev.dup rfl rfl ?_
  refine Ev.mkIN rfl rfl rfl rfl ⟨by omega, by omega⟩ (Lesson_init_ok hz c7) (fun τ14 hz1 hk c7 => ?_)
  replace c0 := (hk b (by omega)).trans c0
  replace c1 := (hk (b + 1) (by omega)).trans c1
  replace c2 := (hk (b + 2) (by omega)).trans c2
  replace c3 := (hk (b + 3) (by omega)).trans c3
  replace c4 := (hk (b + 4) (by omega)).trans c4
  replace c5 := (hk (b + 5) (by omega)).trans c5
  replace c6 := (hk (b + 6) (by omega)).trans c6
  replace kp : ∀ q, q < b → τ14.2 q = σ.2 q := fun q h => (hk q (by omega)).trans (kp q h)
  replace hz : τ14.1 = b + 8 := hz1
  clear hk hz1
  refine Ev.putFE rfl rfl c0 rfl rfl rfl rfl rfl (Nat.le_of_ble_eq_true rfl) (fun τ15 f1 q1 => ?_)
  replace c1 := f1.cell c1 (by omega)
  replace c2 := f1.cell c2 (by omega)
  replace c3 := f1.cell c3 (by omega)
  replace c4 := f1.cell c4 (by omega)
  replace c5 := f1.cell c5 (by omega)
  replace c6 := f1.cell c6 (by omega)
  replace c7 := c7.frm f1 (by omega)
  replace hz : τ15.1 = b + 8 := f1.1.trans hz
  replace kp : ∀ q, q < b → τ15.2 q = σ.2 q := fun q h => (f1.2 q (by omega)).trans (kp q h)
  replace c0 : τ15.2 b = some (.inr (.inr (6, [.ref (b + 1), .ref (b + 2), .ref (b + 3), .ref (b + 4), .ref (b + 5), .ref (b + 6), .ref (b + 7), .int 0, .int 0, .int 0]))) := q1
  clear f1 q1
  refine Ev.aload_n rfl rfl ?_
  refine Ev.iconst (v := 0) rfl (by decide) ?_
  refine Ev.putE rfl rfl c0 rfl rfl rfl (Nat.le_of_ble_eq_true rfl) (fun τ16 f1 q1 => ?_)
  replace c1 := f1.cell c1 (by omega)
  replace c2 := f1.cell c2 (by omega)
  replace c3 := f1.cell c3 (by omega)
  replace c4 := f1.cell c4 (by omega)
  replace c5 := f1.cell c5 (by omega)
  replace c6 := f1.cell c6 (by omega)
  replace c7 := c7.frm f1 (by omega)
  replace hz : τ16.1 = b + 8 := f1.1.trans hz
  replace kp : ∀ q, q < b → τ16.2 q = σ.2 q := fun q h => (f1.2 q (by omega)).trans (kp q h)
  replace c0 : τ16.2 b = some (.inr (.inr (6, [.ref (b + 1), .ref (b + 2), .ref (b + 3), .ref (b + 4), .ref (b + 5), .ref (b + 6), .ref (b + 7), .int 0, .int 0, .int 0]))) := q1
  clear f1 q1
  refine Ev.aload_n rfl rfl ?_
  refine Ev.iconst (v := 0) rfl (by decide) ?_
  refine Ev.putE rfl rfl c0 rfl rfl rfl (Nat.le_of_ble_eq_true rfl) (fun τ17 f1 q1 => ?_)
  replace c1 := f1.cell c1 (by omega)
  replace c2 := f1.cell c2 (by omega)
  replace c3 := f1.cell c3 (by omega)
  replace c4 := f1.cell c4 (by omega)
  replace c5 := f1.cell c5 (by omega)
  replace c6 := f1.cell c6 (by omega)
  replace c7 := c7.frm f1 (by omega)
  replace hz : τ17.1 = b + 8 := f1.1.trans hz
  replace kp : ∀ q, q < b → τ17.2 q = σ.2 q := fun q h => (f1.2 q (by omega)).trans (kp q h)
  replace c0 : τ17.2 b = some (.inr (.inr (6, [.ref (b + 1), .ref (b + 2), .ref (b + 3), .ref (b + 4), .ref (b + 5), .ref (b + 6), .ref (b + 7), .int 0, .int 0, .int 0]))) := q1
  clear f1 q1
  refine Ev.aload_n rfl rfl ?_
  refine Ev.iconst (v := (-1)) rfl (by decide) ?_
  refine Ev.putE rfl rfl c0 rfl rfl rfl (Nat.le_of_ble_eq_true rfl) (fun τ18 f1 q1 => ?_)
  replace c1 := f1.cell c1 (by omega)
  replace c2 := f1.cell c2 (by omega)
  replace c3 := f1.cell c3 (by omega)
  replace c4 := f1.cell c4 (by omega)
  replace c5 := f1.cell c5 (by omega)
  replace c6 := f1.cell c6 (by omega)
  replace c7 := c7.frm f1 (by omega)
  replace hz : τ18.1 = b + 8 := f1.1.trans hz
  replace kp : ∀ q, q < b → τ18.2 q = σ.2 q := fun q h => (f1.2 q (by omega)).trans (kp q h)
  replace c0 : τ18.2 b = some (.inr (.inr (6, [.ref (b + 1), .ref (b + 2), .ref (b + 3), .ref (b + 4), .ref (b + 5), .ref (b + 6), .ref (b + 7), .int 0, .int 0, .int (-1)]))) := q1
  clear f1 q1
  refine Ev.ret rfl rfl (by omega) (by omega) ?_
  rw [← hQ]
  exact ⟨rfl, hz, kp, ⟨c0, c1, c2, c3, c4, c5, c6, c7⟩⟩
theorem Sharing_init_ok (hz : σ.1 = b + 1) (c0 : σ.2 b = some (.inr (.inr (7, [.null, .int 0, .null, .null])))) : RetN Γ m_Sharing_init 3 520 b σ 4 (fun τ => jH τ b) := by
  unfold RetN
  generalize hQ : (fun (r : Option Value) (τ : ex_S) => r = none ∧ τ.1 = b + 4 ∧ (∀ q, q < b → τ.2 q = σ.2 q) ∧ (fun τ : ex_S => jH τ b) τ) = Q
  refine Ret.start pm_138 rfl ?_
  have kp : ∀ q, q < b → σ.2 q = σ.2 q := fun _ _ => rfl
  refine Ev.aload_n rfl rfl ?_
  refine Ev.objInit rfl rfl rfl (Nat.le_of_ble_eq_true rfl) ?_
  refine Ev.aload_n rfl rfl ?_
  refine Ev.bipush (v := 8) rfl (by decide) ?_
  refine Ev.newaE (t := 0) (N := 8) hz rfl rfl rfl rfl rfl pa_0 (by decide) (by decide) (by decide) (by omega) (by omega) (fun τ1 hz1 hk c1 => ?_)
  replace c0 := (hk b (by omega)).trans c0
  replace kp : ∀ q, q < b → τ1.2 q = σ.2 q := fun q h => (hk q (by omega)).trans (kp q h)
  replace hz : τ1.1 = b + 2 := hz1
  clear hk hz1
  refine Ev.putFE rfl rfl c0 rfl rfl rfl rfl rfl (Nat.le_of_ble_eq_true rfl) (fun τ2 f1 q1 => ?_)
  replace c1 := f1.cell c1 (by omega)
  replace hz : τ2.1 = b + 2 := f1.1.trans hz
  replace kp : ∀ q, q < b → τ2.2 q = σ.2 q := fun q h => (f1.2 q (by omega)).trans (kp q h)
  replace c0 : τ2.2 b = some (.inr (.inr (7, [.ref (b + 1), .int 0, .null, .null]))) := q1
  clear f1 q1
  refine Ev.aload_n rfl rfl ?_
  refine Ev.iconst (v := 0) rfl (by decide) ?_
  refine Ev.putE rfl rfl c0 rfl rfl rfl (Nat.le_of_ble_eq_true rfl) (fun τ3 f1 q1 => ?_)
  replace c1 := f1.cell c1 (by omega)
  replace hz : τ3.1 = b + 2 := f1.1.trans hz
  replace kp : ∀ q, q < b → τ3.2 q = σ.2 q := fun q h => (f1.2 q (by omega)).trans (kp q h)
  replace c0 : τ3.2 b = some (.inr (.inr (7, [.ref (b + 1), .int 0, .null, .null]))) := q1
  clear f1 q1
  refine Ev.aload_n rfl rfl ?_
  refine Ev.sipush (v := 256) rfl (by decide) ?_
  refine Ev.newaE (t := 0) (N := 256) hz rfl rfl rfl rfl rfl pa_0 (by decide) (by decide) (by decide) (by omega) (by omega) (fun τ4 hz1 hk c2 => ?_)
  replace c0 := (hk b (by omega)).trans c0
  replace c1 := (hk (b + 1) (by omega)).trans c1
  replace kp : ∀ q, q < b → τ4.2 q = σ.2 q := fun q h => (hk q (by omega)).trans (kp q h)
  replace hz : τ4.1 = b + 3 := hz1
  clear hk hz1
  refine Ev.putFE rfl rfl c0 rfl rfl rfl rfl rfl (Nat.le_of_ble_eq_true rfl) (fun τ5 f1 q1 => ?_)
  replace c1 := f1.cell c1 (by omega)
  replace c2 := f1.cell c2 (by omega)
  replace hz : τ5.1 = b + 3 := f1.1.trans hz
  replace kp : ∀ q, q < b → τ5.2 q = σ.2 q := fun q h => (f1.2 q (by omega)).trans (kp q h)
  replace c0 : τ5.2 b = some (.inr (.inr (7, [.ref (b + 1), .int 0, .ref (b + 2), .null]))) := q1
  clear f1 q1
  refine Ev.aload_n rfl rfl ?_
  refine Ev.sipush (v := 256) rfl (by decide) ?_
  refine Ev.newaE (t := 0) (N := 256) hz rfl rfl rfl rfl rfl pa_0 (by decide) (by decide) (by decide) (by omega) (by omega) (fun τ6 hz1 hk c3 => ?_)
  replace c0 := (hk b (by omega)).trans c0
  replace c1 := (hk (b + 1) (by omega)).trans c1
  replace c2 := (hk (b + 2) (by omega)).trans c2
  replace kp : ∀ q, q < b → τ6.2 q = σ.2 q := fun q h => (hk q (by omega)).trans (kp q h)
  replace hz : τ6.1 = b + 4 := hz1
  clear hk hz1
  refine Ev.putFE rfl rfl c0 rfl rfl rfl rfl rfl (Nat.le_of_ble_eq_true rfl) (fun τ7 f1 q1 => ?_)
  replace c1 := f1.cell c1 (by omega)
  replace c2 := f1.cell c2 (by omega)
  replace c3 := f1.cell c3 (by omega)
  replace hz : τ7.1 = b + 4 := f1.1.trans hz
  replace kp : ∀ q, q < b → τ7.2 q = σ.2 q := fun q h => (f1.2 q (by omega)).trans (kp q h)
  replace c0 : τ7.2 b = some (.inr (.inr (7, [.ref (b + 1), .int 0, .ref (b + 2), .ref (b + 3)]))) := q1
  clear f1 q1
  refine Ev.ret rfl rfl (by omega) (by omega) ?_
  rw [← hQ]
  exact ⟨rfl, hz, kp, ⟨c0, c1, c2, c3⟩⟩
theorem Benches_init_ok (hz : σ.1 = b + 1) (c0 : σ.2 b = some (.inr (.inr (8, [.null, .null, .null, .null, .int 0])))) : RetN Γ m_Benches_init 3 172 b σ 4 (fun τ => jB τ b) := by
  unfold RetN
  generalize hQ : (fun (r : Option Value) (τ : ex_S) => r = none ∧ τ.1 = b + 4 ∧ (∀ q, q < b → τ.2 q = σ.2 q) ∧ (fun τ : ex_S => jB τ b) τ) = Q
  refine Ret.start pm_149 rfl ?_
  have kp : ∀ q, q < b → σ.2 q = σ.2 q := fun _ _ => rfl
  refine Ev.aload_n rfl rfl ?_
  refine Ev.objInit rfl rfl rfl (Nat.le_of_ble_eq_true rfl) ?_
  refine Ev.aload_n rfl rfl ?_
  refine Ev.bipush (v := 12) rfl (by decide) ?_
  refine Ev.newaE (t := 0) (N := 12) hz rfl rfl rfl rfl rfl pa_0 (by decide) (by decide) (by decide) (by omega) (by omega) (fun τ1 hz1 hk c1 => ?_)
  replace c0 := (hk b (by omega)).trans c0
  replace kp : ∀ q, q < b → τ1.2 q = σ.2 q := fun q h => (hk q (by omega)).trans (kp q h)
  replace hz : τ1.1 = b + 2 := hz1
  clear hk hz1
  refine Ev.putFE rfl rfl c0 rfl rfl rfl rfl rfl (Nat.le_of_ble_eq_true rfl) (fun τ2 f1 q1 => ?_)
  replace c1 := f1.cell c1 (by omega)
  replace hz : τ2.1 = b + 2 := f1.1.trans hz
  replace kp : ∀ q, q < b → τ2.2 q = σ.2 q := fun q h => (f1.2 q (by omega)).trans (kp q h)
  replace c0 : τ2.2 b = some (.inr (.inr (8, [.ref (b + 1), .null, .null, .null, .int 0]))) := q1
  clear f1 q1
  refine Ev.aload_n rfl rfl ?_
  refine Ev.sipush (v := 144) rfl (by decide) ?_
  refine Ev.newaE (t := 0) (N := 144) hz rfl rfl rfl rfl rfl pa_0 (by decide) (by decide) (by decide) (by omega) (by omega) (fun τ3 hz1 hk c2 => ?_)
  replace c0 := (hk b (by omega)).trans c0
  replace c1 := (hk (b + 1) (by omega)).trans c1
  replace kp : ∀ q, q < b → τ3.2 q = σ.2 q := fun q h => (hk q (by omega)).trans (kp q h)
  replace hz : τ3.1 = b + 3 := hz1
  clear hk hz1
  refine Ev.putFE rfl rfl c0 rfl rfl rfl rfl rfl (Nat.le_of_ble_eq_true rfl) (fun τ4 f1 q1 => ?_)
  replace c1 := f1.cell c1 (by omega)
  replace c2 := f1.cell c2 (by omega)
  replace hz : τ4.1 = b + 3 := f1.1.trans hz
  replace kp : ∀ q, q < b → τ4.2 q = σ.2 q := fun q h => (f1.2 q (by omega)).trans (kp q h)
  replace c0 : τ4.2 b = some (.inr (.inr (8, [.ref (b + 1), .ref (b + 2), .null, .null, .int 0]))) := q1
  clear f1 q1
  refine Ev.aload_n rfl rfl ?_
  refine Ev.bipush (v := 16) rfl (by decide) ?_
  refine Ev.newaE (t := 0) (N := 16) hz rfl rfl rfl rfl rfl pa_0 (by decide) (by decide) (by decide) (by omega) (by omega) (fun τ5 hz1 hk c3 => ?_)
  replace c0 := (hk b (by omega)).trans c0
  replace c1 := (hk (b + 1) (by omega)).trans c1
  replace c2 := (hk (b + 2) (by omega)).trans c2
  replace kp : ∀ q, q < b → τ5.2 q = σ.2 q := fun q h => (hk q (by omega)).trans (kp q h)
  replace hz : τ5.1 = b + 4 := hz1
  clear hk hz1
  refine Ev.putFE rfl rfl c0 rfl rfl rfl rfl rfl (Nat.le_of_ble_eq_true rfl) (fun τ6 f1 q1 => ?_)
  replace c1 := f1.cell c1 (by omega)
  replace c2 := f1.cell c2 (by omega)
  replace c3 := f1.cell c3 (by omega)
  replace hz : τ6.1 = b + 4 := f1.1.trans hz
  replace kp : ∀ q, q < b → τ6.2 q = σ.2 q := fun q h => (f1.2 q (by omega)).trans (kp q h)
  replace c0 : τ6.2 b = some (.inr (.inr (8, [.ref (b + 1), .ref (b + 2), .ref (b + 3), .null, .int 0]))) := q1
  clear f1 q1
  refine Ev.aload_n rfl rfl ?_
  refine Ev.null rfl ?_
  refine Ev.putE rfl rfl c0 rfl rfl rfl (Nat.le_of_ble_eq_true rfl) (fun τ7 f1 q1 => ?_)
  replace c1 := f1.cell c1 (by omega)
  replace c2 := f1.cell c2 (by omega)
  replace c3 := f1.cell c3 (by omega)
  replace hz : τ7.1 = b + 4 := f1.1.trans hz
  replace kp : ∀ q, q < b → τ7.2 q = σ.2 q := fun q h => (f1.2 q (by omega)).trans (kp q h)
  replace c0 : τ7.2 b = some (.inr (.inr (8, [.ref (b + 1), .ref (b + 2), .ref (b + 3), .null, .int 0]))) := q1
  clear f1 q1
  refine Ev.aload_n rfl rfl ?_
  refine Ev.iconst (v := 0) rfl (by decide) ?_
  refine Ev.putE rfl rfl c0 rfl rfl rfl (Nat.le_of_ble_eq_true rfl) (fun τ8 f1 q1 => ?_)
  replace c1 := f1.cell c1 (by omega)
  replace c2 := f1.cell c2 (by omega)
  replace c3 := f1.cell c3 (by omega)
  replace hz : τ8.1 = b + 4 := f1.1.trans hz
  replace kp : ∀ q, q < b → τ8.2 q = σ.2 q := fun q h => (f1.2 q (by omega)).trans (kp q h)
  replace c0 : τ8.2 b = some (.inr (.inr (8, [.ref (b + 1), .ref (b + 2), .ref (b + 3), .null, .int 0]))) := q1
  clear f1 q1
  refine Ev.ret rfl rfl (by omega) (by omega) ?_
  rw [← hQ]
  exact ⟨rfl, hz, kp, ⟨c0, c1, c2, c3⟩⟩
theorem Term_init_ok (hz : σ.1 = b + 1) (c0 : σ.2 b = some (.inr (.inr (9, [.int 0, .null, .null])))) : RetN Γ m_Term_init 2 12 b σ 3 (fun τ => jE τ b) := by
  unfold RetN
  generalize hQ : (fun (r : Option Value) (τ : ex_S) => r = none ∧ τ.1 = b + 3 ∧ (∀ q, q < b → τ.2 q = σ.2 q) ∧ (fun τ : ex_S => jE τ b) τ) = Q
  refine Ret.start pm_155 rfl ?_
  have kp : ∀ q, q < b → σ.2 q = σ.2 q := fun _ _ => rfl
  refine Ev.aload_n rfl rfl ?_
  refine Ev.objInit rfl rfl rfl (Nat.le_of_ble_eq_true rfl) ?_
  refine Ev.aload_n rfl rfl ?_
  refine Ev.iconst (v := 0) rfl (by decide) ?_
  refine Ev.putE rfl rfl c0 rfl rfl rfl (Nat.le_of_ble_eq_true rfl) (fun τ1 f1 q1 => ?_)
  replace hz : τ1.1 = b + 1 := f1.1.trans hz
  replace kp : ∀ q, q < b → τ1.2 q = σ.2 q := fun q h => (f1.2 q (by omega)).trans (kp q h)
  replace c0 : τ1.2 b = some (.inr (.inr (9, [.int 0, .null, .null]))) := q1
  clear f1 q1
  refine Ev.aload_n rfl rfl ?_
  refine Ev.bipush (v := 6) rfl (by decide) ?_
  refine Ev.newaE (t := 0) (N := 6) hz rfl rfl rfl rfl rfl pa_0 (by decide) (by decide) (by decide) (by omega) (by omega) (fun τ2 hz1 hk c1 => ?_)
  replace c0 := (hk b (by omega)).trans c0
  replace kp : ∀ q, q < b → τ2.2 q = σ.2 q := fun q h => (hk q (by omega)).trans (kp q h)
  replace hz : τ2.1 = b + 2 := hz1
  clear hk hz1
  refine Ev.putFE rfl rfl c0 rfl rfl rfl rfl rfl (Nat.le_of_ble_eq_true rfl) (fun τ3 f1 q1 => ?_)
  replace c1 := f1.cell c1 (by omega)
  replace hz : τ3.1 = b + 2 := f1.1.trans hz
  replace kp : ∀ q, q < b → τ3.2 q = σ.2 q := fun q h => (f1.2 q (by omega)).trans (kp q h)
  replace c0 : τ3.2 b = some (.inr (.inr (9, [.int 0, .ref (b + 1), .null]))) := q1
  clear f1 q1
  refine Ev.aload_n rfl rfl ?_
  refine Ev.bipush (v := 6) rfl (by decide) ?_
  refine Ev.newaE (t := 0) (N := 6) hz rfl rfl rfl rfl rfl pa_0 (by decide) (by decide) (by decide) (by omega) (by omega) (fun τ4 hz1 hk c2 => ?_)
  replace c0 := (hk b (by omega)).trans c0
  replace c1 := (hk (b + 1) (by omega)).trans c1
  replace kp : ∀ q, q < b → τ4.2 q = σ.2 q := fun q h => (hk q (by omega)).trans (kp q h)
  replace hz : τ4.1 = b + 3 := hz1
  clear hk hz1
  refine Ev.putFE rfl rfl c0 rfl rfl rfl rfl rfl (Nat.le_of_ble_eq_true rfl) (fun τ5 f1 q1 => ?_)
  replace c1 := f1.cell c1 (by omega)
  replace c2 := f1.cell c2 (by omega)
  replace hz : τ5.1 = b + 3 := f1.1.trans hz
  replace kp : ∀ q, q < b → τ5.2 q = σ.2 q := fun q h => (f1.2 q (by omega)).trans (kp q h)
  replace c0 : τ5.2 b = some (.inr (.inr (9, [.int 0, .ref (b + 1), .ref (b + 2)]))) := q1
  clear f1 q1
  refine Ev.ret rfl rfl (by omega) (by omega) ?_
  rw [← hQ]
  exact ⟨rfl, hz, kp, ⟨c0, c1, c2⟩⟩
end
end
