/-! What the constructors make, further. -/
noncomputable section
section
variable {Γ : ex_G} {σ : ex_S} {b : Nat}
theorem School_init_ok (hz : σ.1 = b + 1) (c0 : σ.2 b = some (.inr (.inr (2, [.int 0, .null, .null, .null, .null, .null, .int 0, .null, .null, .null, .null, .null])))) : RetN Γ m_School_init 10 116 b σ 11 (fun τ => isS τ b S0) := by
  unfold RetN
  generalize hQ : (fun (r : Option Value) (τ : ex_S) => r = none ∧ τ.1 = b + 11 ∧ (∀ q, q < b → τ.2 q = σ.2 q) ∧ (fun τ : ex_S => isS τ b S0) τ) = Q
  refine Ret.start pm_70 rfl ?_
  have kp : ∀ q, q < b → σ.2 q = σ.2 q := fun _ _ => rfl
  refine Ev.aload_n rfl rfl ?_
  refine Ev.objInit rfl rfl rfl (Nat.le_of_ble_eq_true rfl) ?_
  refine Ev.aload_n rfl rfl ?_
  refine Ev.iconst (v := 0) rfl (by decide) ?_
  refine Ev.putE rfl rfl c0 rfl rfl rfl (Nat.le_of_ble_eq_true rfl) (fun τ1 f1 q1 => ?_)
  replace hz : τ1.1 = b + 1 := f1.1.trans hz
  replace kp : ∀ q, q < b → τ1.2 q = σ.2 q := fun q h => (f1.2 q (by omega)).trans (kp q h)
  replace c0 : τ1.2 b = some (.inr (.inr (2, [.int 0, .null, .null, .null, .null, .null, .int 0, .null, .null, .null, .null, .null]))) := q1
  clear f1 q1
  refine Ev.aload_n rfl rfl ?_
  refine Ev.bipush (v := 17) rfl (by decide) ?_
  refine Ev.newaE (t := 0) (N := 17) hz rfl rfl rfl rfl rfl pa_0 (by decide) (by decide) (by decide) (by omega) (by omega) (fun τ2 hz1 hk c1 => ?_)
  replace c0 := (hk b (by omega)).trans c0
  replace kp : ∀ q, q < b → τ2.2 q = σ.2 q := fun q h => (hk q (by omega)).trans (kp q h)
  replace hz : τ2.1 = b + 2 := hz1
  clear hk hz1
  refine Ev.putFE rfl rfl c0 rfl rfl rfl rfl rfl (Nat.le_of_ble_eq_true rfl) (fun τ3 f1 q1 => ?_)
  replace c1 := f1.cell c1 (by omega)
  replace hz : τ3.1 = b + 2 := f1.1.trans hz
  replace kp : ∀ q, q < b → τ3.2 q = σ.2 q := fun q h => (f1.2 q (by omega)).trans (kp q h)
  replace c0 : τ3.2 b = some (.inr (.inr (2, [.int 0, .ref (b + 1), .null, .null, .null, .null, .int 0, .null, .null, .null, .null, .null]))) := q1
  clear f1 q1
  refine Ev.aload_n rfl rfl ?_
  refine Ev.bipush (v := 16) rfl (by decide) ?_
  refine Ev.newaE (t := 0) (N := 16) hz rfl rfl rfl rfl rfl pa_0 (by decide) (by decide) (by decide) (by omega) (by omega) (fun τ4 hz1 hk c2 => ?_)
  replace c0 := (hk b (by omega)).trans c0
  replace c1 := (hk (b + 1) (by omega)).trans c1
  replace kp : ∀ q, q < b → τ4.2 q = σ.2 q := fun q h => (hk q (by omega)).trans (kp q h)
  replace hz : τ4.1 = b + 3 := hz1
  clear hk hz1
  refine Ev.putFE rfl rfl c0 rfl rfl rfl rfl rfl (Nat.le_of_ble_eq_true rfl) (fun τ5 f1 q1 => ?_)
  replace c1 := f1.cell c1 (by omega)
  replace c2 := f1.cell c2 (by omega)
  replace hz : τ5.1 = b + 3 := f1.1.trans hz
  replace kp : ∀ q, q < b → τ5.2 q = σ.2 q := fun q h => (f1.2 q (by omega)).trans (kp q h)
  replace c0 : τ5.2 b = some (.inr (.inr (2, [.int 0, .ref (b + 1), .ref (b + 2), .null, .null, .null, .int 0, .null, .null, .null, .null, .null]))) := q1
  clear f1 q1
  refine Ev.aload_n rfl rfl ?_
  refine Ev.bipush (v := 16) rfl (by decide) ?_
  refine Ev.newaE (t := 0) (N := 16) hz rfl rfl rfl rfl rfl pa_0 (by decide) (by decide) (by decide) (by omega) (by omega) (fun τ6 hz1 hk c3 => ?_)
  replace c0 := (hk b (by omega)).trans c0
  replace c1 := (hk (b + 1) (by omega)).trans c1
  replace c2 := (hk (b + 2) (by omega)).trans c2
  replace kp : ∀ q, q < b → τ6.2 q = σ.2 q := fun q h => (hk q (by omega)).trans (kp q h)
  replace hz : τ6.1 = b + 4 := hz1
  clear hk hz1
  refine Ev.putFE rfl rfl c0 rfl rfl rfl rfl rfl (Nat.le_of_ble_eq_true rfl) (fun τ7 f1 q1 => ?_)
  replace c1 := f1.cell c1 (by omega)
  replace c2 := f1.cell c2 (by omega)
  replace c3 := f1.cell c3 (by omega)
  replace hz : τ7.1 = b + 4 := f1.1.trans hz
  replace kp : ∀ q, q < b → τ7.2 q = σ.2 q := fun q h => (f1.2 q (by omega)).trans (kp q h)
  replace c0 : τ7.2 b = some (.inr (.inr (2, [.int 0, .ref (b + 1), .ref (b + 2), .ref (b + 3), .null, .null, .int 0, .null, .null, .null, .null, .null]))) := q1
  clear f1 q1
  refine Ev.aload_n rfl rfl ?_
  refine Ev.bipush (v := 16) rfl (by decide) ?_
  refine Ev.newaE (t := 0) (N := 16) hz rfl rfl rfl rfl rfl pa_0 (by decide) (by decide) (by decide) (by omega) (by omega) (fun τ8 hz1 hk c4 => ?_)
  replace c0 := (hk b (by omega)).trans c0
  replace c1 := (hk (b + 1) (by omega)).trans c1
  replace c2 := (hk (b + 2) (by omega)).trans c2
  replace c3 := (hk (b + 3) (by omega)).trans c3
  replace kp : ∀ q, q < b → τ8.2 q = σ.2 q := fun q h => (hk q (by omega)).trans (kp q h)
  replace hz : τ8.1 = b + 5 := hz1
  clear hk hz1
  refine Ev.putFE rfl rfl c0 rfl rfl rfl rfl rfl (Nat.le_of_ble_eq_true rfl) (fun τ9 f1 q1 => ?_)
  replace c1 := f1.cell c1 (by omega)
  replace c2 := f1.cell c2 (by omega)
  replace c3 := f1.cell c3 (by omega)
  replace c4 := f1.cell c4 (by omega)
  replace hz : τ9.1 = b + 5 := f1.1.trans hz
  replace kp : ∀ q, q < b → τ9.2 q = σ.2 q := fun q h => (f1.2 q (by omega)).trans (kp q h)
  replace c0 : τ9.2 b = some (.inr (.inr (2, [.int 0, .ref (b + 1), .ref (b + 2), .ref (b + 3), .ref (b + 4), .null, .int 0, .null, .null, .null, .null, .null]))) := q1
  clear f1 q1
  refine Ev.aload_n rfl rfl ?_
  refine Ev.bipush (v := 16) rfl (by decide) ?_
  refine Ev.newaE (t := 0) (N := 16) hz rfl rfl rfl rfl rfl pa_0 (by decide) (by decide) (by decide) (by omega) (by omega) (fun τ10 hz1 hk c5 => ?_)
  replace c0 := (hk b (by omega)).trans c0
  replace c1 := (hk (b + 1) (by omega)).trans c1
  replace c2 := (hk (b + 2) (by omega)).trans c2
  replace c3 := (hk (b + 3) (by omega)).trans c3
  replace c4 := (hk (b + 4) (by omega)).trans c4
  replace kp : ∀ q, q < b → τ10.2 q = σ.2 q := fun q h => (hk q (by omega)).trans (kp q h)
  replace hz : τ10.1 = b + 6 := hz1
  clear hk hz1
  refine Ev.putFE rfl rfl c0 rfl rfl rfl rfl rfl (Nat.le_of_ble_eq_true rfl) (fun τ11 f1 q1 => ?_)
  replace c1 := f1.cell c1 (by omega)
  replace c2 := f1.cell c2 (by omega)
  replace c3 := f1.cell c3 (by omega)
  replace c4 := f1.cell c4 (by omega)
  replace c5 := f1.cell c5 (by omega)
  replace hz : τ11.1 = b + 6 := f1.1.trans hz
  replace kp : ∀ q, q < b → τ11.2 q = σ.2 q := fun q h => (f1.2 q (by omega)).trans (kp q h)
  replace c0 : τ11.2 b = some (.inr (.inr (2, [.int 0, .ref (b + 1), .ref (b + 2), .ref (b + 3), .ref (b + 4), .ref (b + 5), .int 0, .null, .null, .null, .null, .null]))) := q1
  clear f1 q1
  refine Ev.aload_n rfl rfl ?_
  refine Ev.iconst (v := 0) rfl (by decide) ?_
  refine Ev.putE rfl rfl c0 rfl rfl rfl (Nat.le_of_ble_eq_true rfl) (fun τ12 f1 q1 => ?_)
  replace c1 := f1.cell c1 (by omega)
  replace c2 := f1.cell c2 (by omega)
  replace c3 := f1.cell c3 (by omega)
  replace c4 := f1.cell c4 (by omega)
  replace c5 := f1.cell c5 (by omega)
  replace hz : τ12.1 = b + 6 := f1.1.trans hz
  replace kp : ∀ q, q < b → τ12.2 q = σ.2 q := fun q h => (f1.2 q (by omega)).trans (kp q h)
  replace c0 : τ12.2 b = some (.inr (.inr (2, [.int 0, .ref (b + 1), .ref (b + 2), .ref (b + 3), .ref (b + 4), .ref (b + 5), .int 0, .null, .null, .null, .null, .null]))) := q1
  clear f1 q1
  refine Ev.aload_n rfl rfl ?_
  refine Ev.iconst (v := 5) rfl (by decide) ?_
  refine Ev.newaE (t := 0) (N := 5) hz rfl rfl rfl rfl rfl pa_0 (by decide) (by decide) (by decide) (by omega) (by omega) (fun τ13 hz1 hk c6 => ?_)
  replace c0 := (hk b (by omega)).trans c0
  replace c1 := (hk (b + 1) (by omega)).trans c1
  replace c2 := (hk (b + 2) (by omega)).trans c2
  replace c3 := (hk (b + 3) (by omega)).trans c3
  replace c4 := (hk (b + 4) (by omega)).trans c4
  replace c5 := (hk (b + 5) (by omega)).trans c5
  replace kp : ∀ q, q < b → τ13.2 q = σ.2 q := fun q h => (hk q (by omega)).trans (kp q h)
  replace hz : τ13.1 = b + 7 := hz1
  clear hk hz1
  refine Ev.putFE rfl rfl c0 rfl rfl rfl rfl rfl (Nat.le_of_ble_eq_true rfl) (fun τ14 f1 q1 => ?_)
  replace c1 := f1.cell c1 (by omega)
  replace c2 := f1.cell c2 (by omega)
  replace c3 := f1.cell c3 (by omega)
  replace c4 := f1.cell c4 (by omega)
  replace c5 := f1.cell c5 (by omega)
  replace c6 := f1.cell c6 (by omega)
  replace hz : τ14.1 = b + 7 := f1.1.trans hz
  replace kp : ∀ q, q < b → τ14.2 q = σ.2 q := fun q h => (f1.2 q (by omega)).trans (kp q h)
  replace c0 : τ14.2 b = some (.inr (.inr (2, [.int 0, .ref (b + 1), .ref (b + 2), .ref (b + 3), .ref (b + 4), .ref (b + 5), .int 0, .ref (b + 6), .null, .null, .null, .null]))) := q1
  clear f1 q1
  refine Ev.aload_n rfl rfl ?_
  refine Ev.iconst (v := 5) rfl (by decide) ?_
  refine Ev.newaE (t := 0) (N := 5) hz rfl rfl rfl rfl rfl pa_0 (by decide) (by decide) (by decide) (by omega) (by omega) (fun τ15 hz1 hk c7 => ?_)
  replace c0 := (hk b (by omega)).trans c0
  replace c1 := (hk (b + 1) (by omega)).trans c1
  replace c2 := (hk (b + 2) (by omega)).trans c2
  replace c3 := (hk (b + 3) (by omega)).trans c3
  replace c4 := (hk (b + 4) (by omega)).trans c4
  replace c5 := (hk (b + 5) (by omega)).trans c5
  replace c6 := (hk (b + 6) (by omega)).trans c6
  replace kp : ∀ q, q < b → τ15.2 q = σ.2 q := fun q h => (hk q (by omega)).trans (kp q h)
  replace hz : τ15.1 = b + 8 := hz1
  clear hk hz1
  refine Ev.putFE rfl rfl c0 rfl rfl rfl rfl rfl (Nat.le_of_ble_eq_true rfl) (fun τ16 f1 q1 => ?_)
  replace c1 := f1.cell c1 (by omega)
  replace c2 := f1.cell c2 (by omega)
  replace c3 := f1.cell c3 (by omega)
  replace c4 := f1.cell c4 (by omega)
  replace c5 := f1.cell c5 (by omega)
  replace c6 := f1.cell c6 (by omega)
  replace c7 := f1.cell c7 (by omega)
  replace hz : τ16.1 = b + 8 := f1.1.trans hz
  replace kp : ∀ q, q < b → τ16.2 q = σ.2 q := fun q h => (f1.2 q (by omega)).trans (kp q h)
  replace c0 : τ16.2 b = some (.inr (.inr (2, [.int 0, .ref (b + 1), .ref (b + 2), .ref (b + 3), .ref (b + 4), .ref (b + 5), .int 0, .ref (b + 6), .ref (b + 7), .null, .null, .null]))) := q1
  clear f1 q1
  refine Ev.aload_n rfl rfl ?_
  refine Ev.bipush (v := 7) rfl (by decide) ?_
  refine Ev.newaE (t := 0) (N := 7) hz rfl rfl rfl rfl rfl pa_0 (by decide) (by decide) (by decide) (by omega) (by omega) (fun τ17 hz1 hk c8 => ?_)
  replace c0 := (hk b (by omega)).trans c0
  replace c1 := (hk (b + 1) (by omega)).trans c1
  replace c2 := (hk (b + 2) (by omega)).trans c2
  replace c3 := (hk (b + 3) (by omega)).trans c3
  replace c4 := (hk (b + 4) (by omega)).trans c4
  replace c5 := (hk (b + 5) (by omega)).trans c5
  replace c6 := (hk (b + 6) (by omega)).trans c6
  replace c7 := (hk (b + 7) (by omega)).trans c7
  replace kp : ∀ q, q < b → τ17.2 q = σ.2 q := fun q h => (hk q (by omega)).trans (kp q h)
  replace hz : τ17.1 = b + 9 := hz1
  clear hk hz1
  refine Ev.putFE rfl rfl c0 rfl rfl rfl rfl rfl (Nat.le_of_ble_eq_true rfl) (fun τ18 f1 q1 => ?_)
  replace c1 := f1.cell c1 (by omega)
  replace c2 := f1.cell c2 (by omega)
  replace c3 := f1.cell c3 (by omega)
  replace c4 := f1.cell c4 (by omega)
  replace c5 := f1.cell c5 (by omega)
  replace c6 := f1.cell c6 (by omega)
  replace c7 := f1.cell c7 (by omega)
  replace c8 := f1.cell c8 (by omega)
  replace hz : τ18.1 = b + 9 := f1.1.trans hz
  replace kp : ∀ q, q < b → τ18.2 q = σ.2 q := fun q h => (f1.2 q (by omega)).trans (kp q h)
  replace c0 : τ18.2 b = some (.inr (.inr (2, [.int 0, .ref (b + 1), .ref (b + 2), .ref (b + 3), .ref (b + 4), .ref (b + 5), .int 0, .ref (b + 6), .ref (b + 7), .ref (b + 8), .null, .null]))) := q1
  clear f1 q1
  refine Ev.aload_n rfl rfl ?_
  refine Ev.bipush (v := 7) rfl (by decide) ?_
  refine Ev.newaE (t := 0) (N := 7) hz rfl rfl rfl rfl rfl pa_0 (by decide) (by decide) (by decide) (by omega) (by omega) (fun τ19 hz1 hk c9 => ?_)
  replace c0 := (hk b (by omega)).trans c0
  replace c1 := (hk (b + 1) (by omega)).trans c1
  replace c2 := (hk (b + 2) (by omega)).trans c2
  replace c3 := (hk (b + 3) (by omega)).trans c3
  replace c4 := (hk (b + 4) (by omega)).trans c4
  replace c5 := (hk (b + 5) (by omega)).trans c5
  replace c6 := (hk (b + 6) (by omega)).trans c6
  replace c7 := (hk (b + 7) (by omega)).trans c7
  replace c8 := (hk (b + 8) (by omega)).trans c8
  replace kp : ∀ q, q < b → τ19.2 q = σ.2 q := fun q h => (hk q (by omega)).trans (kp q h)
  replace hz : τ19.1 = b + 10 := hz1
  clear hk hz1
  refine Ev.putFE rfl rfl c0 rfl rfl rfl rfl rfl (Nat.le_of_ble_eq_true rfl) (fun τ20 f1 q1 => ?_)
  replace c1 := f1.cell c1 (by omega)
  replace c2 := f1.cell c2 (by omega)
  replace c3 := f1.cell c3 (by omega)
  replace c4 := f1.cell c4 (by omega)
  replace c5 := f1.cell c5 (by omega)
  replace c6 := f1.cell c6 (by omega)
  replace c7 := f1.cell c7 (by omega)
  replace c8 := f1.cell c8 (by omega)
  replace c9 := f1.cell c9 (by omega)
  replace hz : τ20.1 = b + 10 := f1.1.trans hz
  replace kp : ∀ q, q < b → τ20.2 q = σ.2 q := fun q h => (f1.2 q (by omega)).trans (kp q h)
  replace c0 : τ20.2 b = some (.inr (.inr (2, [.int 0, .ref (b + 1), .ref (b + 2), .ref (b + 3), .ref (b + 4), .ref (b + 5), .int 0, .ref (b + 6), .ref (b + 7), .ref (b + 8), .ref (b + 9), .null]))) := q1
  clear f1 q1
  refine Ev.aload_n rfl rfl ?_
  refine Ev.bipush (v := 11) rfl (by decide) ?_
  refine Ev.newaE (t := 0) (N := 11) hz rfl rfl rfl rfl rfl pa_0 (by decide) (by decide) (by decide) (by omega) (by omega) (fun τ21 hz1 hk c10 => ?_)
  replace c0 := (hk b (by omega)).trans c0
  replace c1 := (hk (b + 1) (by omega)).trans c1
  replace c2 := (hk (b + 2) (by omega)).trans c2
  replace c3 := (hk (b + 3) (by omega)).trans c3
  replace c4 := (hk (b + 4) (by omega)).trans c4
  replace c5 := (hk (b + 5) (by omega)).trans c5
  replace c6 := (hk (b + 6) (by omega)).trans c6
  replace c7 := (hk (b + 7) (by omega)).trans c7
  replace c8 := (hk (b + 8) (by omega)).trans c8
  replace c9 := (hk (b + 9) (by omega)).trans c9
  replace kp : ∀ q, q < b → τ21.2 q = σ.2 q := fun q h => (hk q (by omega)).trans (kp q h)
  replace hz : τ21.1 = b + 11 := hz1
  clear hk hz1
  refine Ev.putFE rfl rfl c0 rfl rfl rfl rfl rfl (Nat.le_of_ble_eq_true rfl) (fun τ22 f1 q1 => ?_)
  replace c1 := f1.cell c1 (by omega)
  replace c2 := f1.cell c2 (by omega)
  replace c3 := f1.cell c3 (by omega)
  replace c4 := f1.cell c4 (by omega)
  replace c5 := f1.cell c5 (by omega)
  replace c6 := f1.cell c6 (by omega)
  replace c7 := f1.cell c7 (by omega)
  replace c8 := f1.cell c8 (by omega)
  replace c9 := f1.cell c9 (by omega)
  replace c10 := f1.cell c10 (by omega)
  replace hz : τ22.1 = b + 11 := f1.1.trans hz
  replace kp : ∀ q, q < b → τ22.2 q = σ.2 q := fun q h => (f1.2 q (by omega)).trans (kp q h)
  replace c0 : τ22.2 b = some (.inr (.inr (2, [.int 0, .ref (b + 1), .ref (b + 2), .ref (b + 3), .ref (b + 4), .ref (b + 5), .int 0, .ref (b + 6), .ref (b + 7), .ref (b + 8), .ref (b + 9), .ref (b + 10)]))) := q1
  clear f1 q1
  refine Ev.ret rfl rfl (by omega) (by omega) ?_
  rw [← hQ]
  exact ⟨rfl, hz, kp, ⟨c0, c1, c2, c3, c4, c5, c6, c7, c8, c9, c10⟩⟩
end
end
