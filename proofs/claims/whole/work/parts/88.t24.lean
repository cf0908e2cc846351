/-! What the constructor of the reference makes. -/
noncomputable section
section
variable {Γ : ex_G} {σ : ex_S} {b : Nat}
theorem M_init_ok (hz : σ.1 = b + 1) (c0 : σ.2 b = some (.inr (.inr (10, [.null, .null, .int 0, .int 0, .int 0, .int 0, .int 0, .int 0, .int 0, .int 0, .null, .int 0, .null, .null, .null, .null, .int 0, .null, .null, .null, .int 0, .int 0, .null, .int 0, .null, .null, .null, .int 0, .null, .null])))) : RetN Γ m_M_init 16 13270 b σ 17 (fun τ => τ.2 b = some (.inr (.inr (10, mo b (fun _ => 0)))) ∧ τ.2 (b + 1) = some (.inl (0, 4500, upd (fun _ => 0) 4 (-1))) ∧ τ.2 (b + 2) = some (.inl (2, 3, fun _ => 0)) ∧ τ.2 (b + 3) = some (.inl (0, 120, fun _ => 0)) ∧ τ.2 (b + 4) = some (.inl (0, 16, fun _ => 0)) ∧ τ.2 (b + 5) = some (.inl (0, 119, fun _ => 0)) ∧ τ.2 (b + 6) = some (.inl (0, 119, fun _ => 0)) ∧ τ.2 (b + 7) = some (.inl (0, 119, fun _ => 0)) ∧ τ.2 (b + 8) = some (.inl (0, 6, fun _ => 0)) ∧ τ.2 (b + 9) = some (.inl (0, 16, fun _ => 0)) ∧ τ.2 (b + 10) = some (.inl (0, 16, fun _ => 0)) ∧ τ.2 (b + 11) = some (.inl (0, 16, fun _ => 0)) ∧ τ.2 (b + 12) = some (.inl (0, 16, fun _ => 0)) ∧ τ.2 (b + 13) = some (.inl (0, 4096, fun _ => 0)) ∧ τ.2 (b + 14) = some (.inl (0, 4096, fun _ => 0)) ∧ τ.2 (b + 15) = some (.inl (0, 6, fun _ => 0)) ∧ τ.2 (b + 16) = some (.inl (0, 6, fun _ => 0))) := by
  unfold RetN
  generalize hQ : (fun (r : Option Value) (τ : ex_S) => r = none ∧ τ.1 = b + 17 ∧ (∀ q, q < b → τ.2 q = σ.2 q) ∧ (fun τ : ex_S => τ.2 b = some (.inr (.inr (10, mo b (fun _ => 0)))) ∧ τ.2 (b + 1) = some (.inl (0, 4500, upd (fun _ => 0) 4 (-1))) ∧ τ.2 (b + 2) = some (.inl (2, 3, fun _ => 0)) ∧ τ.2 (b + 3) = some (.inl (0, 120, fun _ => 0)) ∧ τ.2 (b + 4) = some (.inl (0, 16, fun _ => 0)) ∧ τ.2 (b + 5) = some (.inl (0, 119, fun _ => 0)) ∧ τ.2 (b + 6) = some (.inl (0, 119, fun _ => 0)) ∧ τ.2 (b + 7) = some (.inl (0, 119, fun _ => 0)) ∧ τ.2 (b + 8) = some (.inl (0, 6, fun _ => 0)) ∧ τ.2 (b + 9) = some (.inl (0, 16, fun _ => 0)) ∧ τ.2 (b + 10) = some (.inl (0, 16, fun _ => 0)) ∧ τ.2 (b + 11) = some (.inl (0, 16, fun _ => 0)) ∧ τ.2 (b + 12) = some (.inl (0, 16, fun _ => 0)) ∧ τ.2 (b + 13) = some (.inl (0, 4096, fun _ => 0)) ∧ τ.2 (b + 14) = some (.inl (0, 4096, fun _ => 0)) ∧ τ.2 (b + 15) = some (.inl (0, 6, fun _ => 0)) ∧ τ.2 (b + 16) = some (.inl (0, 6, fun _ => 0))) τ) = Q
  refine Ret.start pm_162 rfl ?_
  have kp : ∀ q, q < b → σ.2 q = σ.2 q := fun _ _ => rfl
  refine Ev.aload_n rfl rfl ?_
  refine Ev.objInit rfl rfl rfl (Nat.le_of_ble_eq_true rfl) ?_
  refine Ev.aload_n rfl rfl ?_
  refine Ev.sipush (v := 4500) rfl (by decide) ?_
  refine Ev.newaE (t := 0) (N := 4500) hz rfl rfl rfl rfl rfl pa_0 (by decide) (by decide) (by decide) (by omega) (by omega) (fun τ1 hz1 hk c1 => ?_)
  replace c0 := (hk b (by omega)).trans c0
  replace kp : ∀ q, q < b → τ1.2 q = σ.2 q := fun q h => (hk q (by omega)).trans (kp q h)
  replace hz : τ1.1 = b + 2 := hz1
  clear hk hz1
  refine Ev.putFE rfl rfl c0 rfl rfl rfl rfl rfl (Nat.le_of_ble_eq_true rfl) (fun τ2 f1 q1 => ?_)
  replace c1 := f1.cell c1 (by omega)
  replace hz : τ2.1 = b + 2 := f1.1.trans hz
  replace kp : ∀ q, q < b → τ2.2 q = σ.2 q := fun q h => (f1.2 q (by omega)).trans (kp q h)
  replace c0 : τ2.2 b = some (.inr (.inr (10, [.ref (b + 1), .null, .int 0, .int 0, .int 0, .int 0, .int 0, .int 0, .int 0, .int 0, .null, .int 0, .null, .null, .null, .null, .int 0, .null, .null, .null, .int 0, .int 0, .null, .int 0, .null, .null, .null, .int 0, .null, .null]))) := q1
  clear f1 q1
  refine Ev.aload_n rfl rfl ?_
  refine Ev.iconst (v := 3) rfl (by decide) ?_
  refine Ev.newaE (t := 2) (N := 3) hz rfl rfl rfl rfl rfl pa_2 (by decide) (by decide) (by decide) (by omega) (by omega) (fun τ3 hz1 hk c2 => ?_)
  replace c0 := (hk b (by omega)).trans c0
  replace c1 := (hk (b + 1) (by omega)).trans c1
  replace kp : ∀ q, q < b → τ3.2 q = σ.2 q := fun q h => (hk q (by omega)).trans (kp q h)
  replace hz : τ3.1 = b + 3 := hz1
  clear hk hz1
  refine Ev.putFE rfl rfl c0 rfl rfl rfl rfl rfl (Nat.le_of_ble_eq_true rfl) (fun τ4 f1 q1 => ?_)
  replace c1 := f1.cell c1 (by omega)
  replace c2 := f1.cell c2 (by omega)
  replace hz : τ4.1 = b + 3 := f1.1.trans hz
  replace kp : ∀ q, q < b → τ4.2 q = σ.2 q := fun q h => (f1.2 q (by omega)).trans (kp q h)
  replace c0 : τ4.2 b = some (.inr (.inr (10, [.ref (b + 1), .ref (b + 2), .int 0, .int 0, .int 0, .int 0, .int 0, .int 0, .int 0, .int 0, .null, .int 0, .null, .null, .null, .null, .int 0, .null, .null, .null, .int 0, .int 0, .null, .int 0, .null, .null, .null, .int 0, .null, .null]))) := q1
  clear f1 q1
  refine Ev.aload_n rfl rfl ?_
  refine Ev.bipush (v := 120) rfl (by decide) ?_
  refine Ev.newaE (t := 0) (N := 120) hz rfl rfl rfl rfl rfl pa_0 (by decide) (by decide) (by decide) (by omega) (by omega) (fun τ5 hz1 hk c3 => ?_)
  replace c0 := (hk b (by omega)).trans c0
  replace c1 := (hk (b + 1) (by omega)).trans c1
  replace c2 := (hk (b + 2) (by omega)).trans c2
  replace kp : ∀ q, q < b → τ5.2 q = σ.2 q := fun q h => (hk q (by omega)).trans (kp q h)
  replace hz : τ5.1 = b + 4 := hz1
  clear hk hz1
  refine Ev.putFE rfl rfl c0 rfl rfl rfl rfl rfl (Nat.le_of_ble_eq_true rfl) (fun τ6 f1 q1 => ?_)
  replace c1 := f1.cell c1 (by omega)
  replace c2 := f1.cell c2 (by omega)
  replace c3 := f1.cell c3 (by omega)
  replace hz : τ6.1 = b + 4 := f1.1.trans hz
  replace kp : ∀ q, q < b → τ6.2 q = σ.2 q := fun q h => (f1.2 q (by omega)).trans (kp q h)
  replace c0 : τ6.2 b = some (.inr (.inr (10, [.ref (b + 1), .ref (b + 2), .int 0, .int 0, .int 0, .int 0, .int 0, .int 0, .int 0, .int 0, .ref (b + 3), .int 0, .null, .null, .null, .null, .int 0, .null, .null, .null, .int 0, .int 0, .null, .int 0, .null, .null, .null, .int 0, .null, .null]))) := q1
  clear f1 q1
  refine Ev.aload_n rfl rfl ?_
  refine Ev.bipush (v := 16) rfl (by decide) ?_
  refine Ev.newaE (t := 0) (N := 16) hz rfl rfl rfl rfl rfl pa_0 (by decide) (by decide) (by decide) (by omega) (by omega) (fun τ7 hz1 hk c4 => ?_)
  replace c0 := (hk b (by omega)).trans c0
  replace c1 := (hk (b + 1) (by omega)).trans c1
  replace c2 := (hk (b + 2) (by omega)).trans c2
  replace c3 := (hk (b + 3) (by omega)).trans c3
  replace kp : ∀ q, q < b → τ7.2 q = σ.2 q := fun q h => (hk q (by omega)).trans (kp q h)
  replace hz : τ7.1 = b + 5 := hz1
  clear hk hz1
  refine Ev.putFE rfl rfl c0 rfl rfl rfl rfl rfl (Nat.le_of_ble_eq_true rfl) (fun τ8 f1 q1 => ?_)
  replace c1 := f1.cell c1 (by omega)
  replace c2 := f1.cell c2 (by omega)
  replace c3 := f1.cell c3 (by omega)
  replace c4 := f1.cell c4 (by omega)
  replace hz : τ8.1 = b + 5 := f1.1.trans hz
  replace kp : ∀ q, q < b → τ8.2 q = σ.2 q := fun q h => (f1.2 q (by omega)).trans (kp q h)
  replace c0 : τ8.2 b = some (.inr (.inr (10, [.ref (b + 1), .ref (b + 2), .int 0, .int 0, .int 0, .int 0, .int 0, .int 0, .int 0, .int 0, .ref (b + 3), .int 0, .ref (b + 4), .null, .null, .null, .int 0, .null, .null, .null, .int 0, .int 0, .null, .int 0, .null, .null, .null, .int 0, .null, .null]))) := q1
  clear f1 q1
  refine Ev.aload_n rfl rfl ?_
  refine Ev.bipush (v := 119) rfl (by decide) ?_
  refine Ev.newaE (t := 0) (N := 119) hz rfl rfl rfl rfl rfl pa_0 (by decide) (by decide) (by decide) (by omega) (by omega) (fun τ9 hz1 hk c5 => ?_)
  replace c0 := (hk b (by omega)).trans c0
  replace c1 := (hk (b + 1) (by omega)).trans c1
  replace c2 := (hk (b + 2) (by omega)).trans c2
  replace c3 := (hk (b + 3) (by omega)).trans c3
  replace c4 := (hk (b + 4) (by omega)).trans c4
  replace kp : ∀ q, q < b → τ9.2 q = σ.2 q := fun q h => (hk q (by omega)).trans (kp q h)
  replace hz : τ9.1 = b + 6 := hz1
  clear hk hz1
  refine Ev.putFE rfl rfl c0 rfl rfl rfl rfl rfl (Nat.le_of_ble_eq_true rfl) (fun τ10 f1 q1 => ?_)
  replace c1 := f1.cell c1 (by omega)
  replace c2 := f1.cell c2 (by omega)
  replace c3 := f1.cell c3 (by omega)
  replace c4 := f1.cell c4 (by omega)
  replace c5 := f1.cell c5 (by omega)
  replace hz : τ10.1 = b + 6 := f1.1.trans hz
  replace kp : ∀ q, q < b → τ10.2 q = σ.2 q := fun q h => (f1.2 q (by omega)).trans (kp q h)
  replace c0 : τ10.2 b = some (.inr (.inr (10, [.ref (b + 1), .ref (b + 2), .int 0, .int 0, .int 0, .int 0, .int 0, .int 0, .int 0, .int 0, .ref (b + 3), .int 0, .ref (b + 4), .ref (b + 5), .null, .null, .int 0, .null, .null, .null, .int 0, .int 0, .null, .int 0, .null, .null, .null, .int 0, .null, .null]))) := q1
  clear f1 q1
  refine Ev.aload_n rfl rfl ?_
  refine Ev.bipush (v := 119) rfl (by decide) ?_
  refine Ev.newaE (t := 0) (N := 119) hz rfl rfl rfl rfl rfl pa_0 (by decide) (by decide) (by decide) (by omega) (by omega) (fun τ11 hz1 hk c6 => ?_)
  replace c0 := (hk b (by omega)).trans c0
  replace c1 := (hk (b + 1) (by omega)).trans c1
  replace c2 := (hk (b + 2) (by omega)).trans c2
  replace c3 := (hk (b + 3) (by omega)).trans c3
  replace c4 := (hk (b + 4) (by omega)).trans c4
  replace c5 := (hk (b + 5) (by omega)).trans c5
  replace kp : ∀ q, q < b → τ11.2 q = σ.2 q := fun q h => (hk q (by omega)).trans (kp q h)
  replace hz : τ11.1 = b + 7 := hz1
  clear hk hz1
  refine Ev.putFE rfl rfl c0 rfl rfl rfl rfl rfl (Nat.le_of_ble_eq_true rfl) (fun τ12 f1 q1 => ?_)
  replace c1 := f1.cell c1 (by omega)
  replace c2 := f1.cell c2 (by omega)
  replace c3 := f1.cell c3 (by omega)
  replace c4 := f1.cell c4 (by omega)
  replace c5 := f1.cell c5 (by omega)
  replace c6 := f1.cell c6 (by omega)
  replace hz : τ12.1 = b + 7 := f1.1.trans hz
  replace kp : ∀ q, q < b → τ12.2 q = σ.2 q := fun q h => (f1.2 q (by omega)).trans (kp q h)
  replace c0 : τ12.2 b = some (.inr (.inr (10, [.ref (b + 1), .ref (b + 2), .int 0, .int 0, .int 0, .int 0, .int 0, .int 0, .int 0, .int 0, .ref (b + 3), .int 0, .ref (b + 4), .ref (b + 5), .ref (b + 6), .null, .int 0, .null, .null, .null, .int 0, .int 0, .null, .int 0, .null, .null, .null, .int 0, .null, .null]))) := q1
  clear f1 q1
  refine Ev.aload_n rfl rfl ?_
  refine Ev.bipush (v := 119) rfl (by decide) ?_
  refine Ev.newaE (t := 0) (N := 119) hz rfl rfl rfl rfl rfl pa_0 (by decide) (by decide) (by decide) (by omega) (by omega) (fun τ13 hz1 hk c7 => ?_)
  replace c0 := (hk b (by omega)).trans c0
  replace c1 := (hk (b + 1) (by omega)).trans c1
  replace c2 := (hk (b + 2) (by omega)).trans c2
  replace c3 := (hk (b + 3) (by omega)).trans c3
  replace c4 := (hk (b + 4) (by omega)).trans c4
  replace c5 := (hk (b + 5) (by omega)).trans c5
  replace c6 := (hk (b + 6) (by omega)).trans c6
  replace kp : ∀ q, q < b → τ13.2 q = σ.2 q := fun q h => (hk q (by omega)).trans (kp q h)
  replace hz : τ13.1 = b + 8 := hz1
  clear hk hz1
  refine Ev.putFE rfl rfl c0 rfl rfl rfl rfl rfl (Nat.le_of_ble_eq_true rfl) (fun τ14 f1 q1 => ?_)
  replace c1 := f1.cell c1 (by omega)
  replace c2 := f1.cell c2 (by omega)
  replace c3 := f1.cell c3 (by omega)
  replace c4 := f1.cell c4 (by omega)
  replace c5 := f1.cell c5 (by omega)
  replace c6 := f1.cell c6 (by omega)
  replace c7 := f1.cell c7 (by omega)
  replace hz : τ14.1 = b + 8 := f1.1.trans hz
  replace kp : ∀ q, q < b → τ14.2 q = σ.2 q := fun q h => (f1.2 q (by omega)).trans (kp q h)
  replace c0 : τ14.2 b = some (.inr (.inr (10, [.ref (b + 1), .ref (b + 2), .int 0, .int 0, .int 0, .int 0, .int 0, .int 0, .int 0, .int 0, .ref (b + 3), .int 0, .ref (b + 4), .ref (b + 5), .ref (b + 6), .ref (b + 7), .int 0, .null, .null, .null, .int 0, .int 0, .null, .int 0, .null, .null, .null, .int 0, .null, .null]))) := q1
  clear f1 q1
  refine Ev.aload_n rfl rfl ?_
  refine Ev.bipush (v := 6) rfl (by decide) ?_
  refine Ev.newaE (t := 0) (N := 6) hz rfl rfl rfl rfl rfl pa_0 (by decide) (by decide) (by decide) (by omega) (by omega) (fun τ15 hz1 hk c8 => ?_)
  replace c0 := (hk b (by omega)).trans c0
  replace c1 := (hk (b + 1) (by omega)).trans c1
  replace c2 := (hk (b + 2) (by omega)).trans c2
  replace c3 := (hk (b + 3) (by omega)).trans c3
  replace c4 := (hk (b + 4) (by omega)).trans c4
  replace c5 := (hk (b + 5) (by omega)).trans c5
  replace c6 := (hk (b + 6) (by omega)).trans c6
  replace c7 := (hk (b + 7) (by omega)).trans c7
  replace kp : ∀ q, q < b → τ15.2 q = σ.2 q := fun q h => (hk q (by omega)).trans (kp q h)
  replace hz : τ15.1 = b + 9 := hz1
  clear hk hz1
  refine Ev.putFE rfl rfl c0 rfl rfl rfl rfl rfl (Nat.le_of_ble_eq_true rfl) (fun τ16 f1 q1 => ?_)
  replace c1 := f1.cell c1 (by omega)
  replace c2 := f1.cell c2 (by omega)
  replace c3 := f1.cell c3 (by omega)
  replace c4 := f1.cell c4 (by omega)
  replace c5 := f1.cell c5 (by omega)
  replace c6 := f1.cell c6 (by omega)
  replace c7 := f1.cell c7 (by omega)
  replace c8 := f1.cell c8 (by omega)
  replace hz : τ16.1 = b + 9 := f1.1.trans hz
  replace kp : ∀ q, q < b → τ16.2 q = σ.2 q := fun q h => (f1.2 q (by omega)).trans (kp q h)
  replace c0 : τ16.2 b = some (.inr (.inr (10, [.ref (b + 1), .ref (b + 2), .int 0, .int 0, .int 0, .int 0, .int 0, .int 0, .int 0, .int 0, .ref (b + 3), .int 0, .ref (b + 4), .ref (b + 5), .ref (b + 6), .ref (b + 7), .int 0, .ref (b + 8), .null, .null, .int 0, .int 0, .null, .int 0, .null, .null, .null, .int 0, .null, .null]))) := q1
  clear f1 q1
  refine Ev.aload_n rfl rfl ?_
  refine Ev.bipush (v := 16) rfl (by decide) ?_
  refine Ev.newaE (t := 0) (N := 16) hz rfl rfl rfl rfl rfl pa_0 (by decide) (by decide) (by decide) (by omega) (by omega) (fun τ17 hz1 hk c9 => ?_)
  replace c0 := (hk b (by omega)).trans c0
  replace c1 := (hk (b + 1) (by omega)).trans c1
  replace c2 := (hk (b + 2) (by omega)).trans c2
  replace c3 := (hk (b + 3) (by omega)).trans c3
  replace c4 := (hk (b + 4) (by omega)).trans c4
  replace c5 := (hk (b + 5) (by omega)).trans c5
  replace c6 := (hk (b + 6) (by omega)).trans c6
  replace c7 := (hk (b + 7) (by omega)).trans c7
  replace c8 := (hk (b + 8) (by omega)).trans c8
  replace kp : ∀ q, q < b → τ17.2 q = σ.2 q := fun q h => (hk q (by omega)).trans (kp q h)
  replace hz : τ17.1 = b + 10 := hz1
  clear hk hz1
  refine Ev.putFE rfl rfl c0 rfl rfl rfl rfl rfl (Nat.le_of_ble_eq_true rfl) (fun τ18 f1 q1 => ?_)
  replace c1 := f1.cell c1 (by omega)
  replace c2 := f1.cell c2 (by omega)
  replace c3 := f1.cell c3 (by omega)
  replace c4 := f1.cell c4 (by omega)
  replace c5 := f1.cell c5 (by omega)
  replace c6 := f1.cell c6 (by omega)
  replace c7 := f1.cell c7 (by omega)
  replace c8 := f1.cell c8 (by omega)
  replace c9 := f1.cell c9 (by omega)
  replace hz : τ18.1 = b + 10 := f1.1.trans hz
  replace kp : ∀ q, q < b → τ18.2 q = σ.2 q := fun q h => (f1.2 q (by omega)).trans (kp q h)
  replace c0 : τ18.2 b = some (.inr (.inr (10, [.ref (b + 1), .ref (b + 2), .int 0, .int 0, .int 0, .int 0, .int 0, .int 0, .int 0, .int 0, .ref (b + 3), .int 0, .ref (b + 4), .ref (b + 5), .ref (b + 6), .ref (b + 7), .int 0, .ref (b + 8), .ref (b + 9), .null, .int 0, .int 0, .null, .int 0, .null, .null, .null, .int 0, .null, .null]))) := q1
  clear f1 q1
  refine Ev.aload_n rfl rfl ?_
  refine Ev.bipush (v := 16) rfl (by decide) ?_
  refine Ev.newaE (t := 0) (N := 16) hz rfl rfl rfl rfl rfl pa_0 (by decide) (by decide) (by decide) (by omega) (by omega) (fun τ19 hz1 hk c10 => ?_)
  replace c0 := (hk b (by omega)).trans c0
  replace c1 := (hk (b + 1) (by omega)).trans c1
  replace c2 := (hk (b + 2) (by omega)).trans c2
  replace c3 := (hk (b + 3) (by omega)).trans c3
  replace c4 := (hk (b + 4) (by omega)).trans c4
  replace c5 := (hk (b + 5) (by omega)).trans c5
  replace c6 := (hk (b + 6) (by omega)).trans c6
  replace c7 := (hk (b + 7) (by omega)).trans c7
  replace c8 := (hk (b + 8) (by omega)).trans c8
  replace c9 := (hk (b + 9) (by omega)).trans c9
  replace kp : ∀ q, q < b → τ19.2 q = σ.2 q := fun q h => (hk q (by omega)).trans (kp q h)
  replace hz : τ19.1 = b + 11 := hz1
  clear hk hz1
  refine Ev.putFE rfl rfl c0 rfl rfl rfl rfl rfl (Nat.le_of_ble_eq_true rfl) (fun τ20 f1 q1 => ?_)
  replace c1 := f1.cell c1 (by omega)
  replace c2 := f1.cell c2 (by omega)
  replace c3 := f1.cell c3 (by omega)
  replace c4 := f1.cell c4 (by omega)
  replace c5 := f1.cell c5 (by omega)
  replace c6 := f1.cell c6 (by omega)
  replace c7 := f1.cell c7 (by omega)
  replace c8 := f1.cell c8 (by omega)
  replace c9 := f1.cell c9 (by omega)
  replace c10 := f1.cell c10 (by omega)
  replace hz : τ20.1 = b + 11 := f1.1.trans hz
  replace kp : ∀ q, q < b → τ20.2 q = σ.2 q := fun q h => (f1.2 q (by omega)).trans (kp q h)
  replace c0 : τ20.2 b = some (.inr (.inr (10, [.ref (b + 1), .ref (b + 2), .int 0, .int 0, .int 0, .int 0, .int 0, .int 0, .int 0, .int 0, .ref (b + 3), .int 0, .ref (b + 4), .ref (b + 5), .ref (b + 6), .ref (b + 7), .int 0, .ref (b + 8), .ref (b + 9), .ref (b + 10), .int 0, .int 0, .null, .int 0, .null, .null, .null, .int 0, .null, .null]))) := q1
  clear f1 q1
  refine Ev.aload_n rfl rfl ?_
  refine Ev.bipush (v := 16) rfl (by decide) ?_
  refine Ev.newaE (t := 0) (N := 16) hz rfl rfl rfl rfl rfl pa_0 (by decide) (by decide) (by decide) (by omega) (by omega) (fun τ21 hz1 hk c11 => ?_)
  replace c0 := (hk b (by omega)).trans c0
  replace c1 := (hk (b + 1) (by omega)).trans c1
  replace c2 := (hk (b + 2) (by omega)).trans c2
  replace c3 := (hk (b + 3) (by omega)).trans c3
  replace c4 := (hk (b + 4) (by omega)).trans c4
  replace c5 := (hk (b + 5) (by omega)).trans c5
  replace c6 := (hk (b + 6) (by omega)).trans c6
  replace c7 := (hk (b + 7) (by omega)).trans c7
  replace c8 := (hk (b + 8) (by omega)).trans c8
  replace c9 := (hk (b + 9) (by omega)).trans c9
  replace c10 := (hk (b + 10) (by omega)).trans c10
  replace kp : ∀ q, q < b → τ21.2 q = σ.2 q := fun q h => (hk q (by omega)).trans (kp q h)
  replace hz : τ21.1 = b + 12 := hz1
  clear hk hz1
  refine Ev.putFE rfl rfl c0 rfl rfl rfl rfl rfl (Nat.le_of_ble_eq_true rfl) (fun τ22 f1 q1 => ?_)
  replace c1 := f1.cell c1 (by omega)
  replace c2 := f1.cell c2 (by omega)
  replace c3 := f1.cell c3 (by omega)
  replace c4 := f1.cell c4 (by omega)
  replace c5 := f1.cell c5 (by omega)
  replace c6 := f1.cell c6 (by omega)
  replace c7 := f1.cell c7 (by omega)
  replace c8 := f1.cell c8 (by omega)
  replace c9 := f1.cell c9 (by omega)
  replace c10 := f1.cell c10 (by omega)
  replace c11 := f1.cell c11 (by omega)
  replace hz : τ22.1 = b + 12 := f1.1.trans hz
  replace kp : ∀ q, q < b → τ22.2 q = σ.2 q := fun q h => (f1.2 q (by omega)).trans (kp q h)
  replace c0 : τ22.2 b = some (.inr (.inr (10, [.ref (b + 1), .ref (b + 2), .int 0, .int 0, .int 0, .int 0, .int 0, .int 0, .int 0, .int 0, .ref (b + 3), .int 0, .ref (b + 4), .ref (b + 5), .ref (b + 6), .ref (b + 7), .int 0, .ref (b + 8), .ref (b + 9), .ref (b + 10), .int 0, .int 0, .ref (b + 11), .int 0, .null, .null, .null, .int 0, .null, .null]))) := q1
  clear f1 q1
  refine Ev.aload_n rfl rfl ?_
  refine Ev.bipush (v := 16) rfl (by decide) ?_
  refine Ev.newaE (t := 0) (N := 16) hz rfl rfl rfl rfl rfl pa_0 (by decide) (by decide) (by decide) (by omega) (by omega) (fun τ23 hz1 hk c12 => ?_)
  replace c0 := (hk b (by omega)).trans c0
  replace c1 := (hk (b + 1) (by omega)).trans c1
  replace c2 := (hk (b + 2) (by omega)).trans c2
  replace c3 := (hk (b + 3) (by omega)).trans c3
  replace c4 := (hk (b + 4) (by omega)).trans c4
  replace c5 := (hk (b + 5) (by omega)).trans c5
  replace c6 := (hk (b + 6) (by omega)).trans c6
  replace c7 := (hk (b + 7) (by omega)).trans c7
  replace c8 := (hk (b + 8) (by omega)).trans c8
  replace c9 := (hk (b + 9) (by omega)).trans c9
  replace c10 := (hk (b + 10) (by omega)).trans c10
  replace c11 := (hk (b + 11) (by omega)).trans c11
  replace kp : ∀ q, q < b → τ23.2 q = σ.2 q := fun q h => (hk q (by omega)).trans (kp q h)
  replace hz : τ23.1 = b + 13 := hz1
  clear hk hz1
  refine Ev.putFE rfl rfl c0 rfl rfl rfl rfl rfl (Nat.le_of_ble_eq_true rfl) (fun τ24 f1 q1 => ?_)
  replace c1 := f1.cell c1 (by omega)
  replace c2 := f1.cell c2 (by omega)
  replace c3 := f1.cell c3 (by omega)
  replace c4 := f1.cell c4 (by omega)
  replace c5 := f1.cell c5 (by omega)
  replace c6 := f1.cell c6 (by omega)
  replace c7 := f1.cell c7 (by omega)
  replace c8 := f1.cell c8 (by omega)
  replace c9 := f1.cell c9 (by omega)
  replace c10 := f1.cell c10 (by omega)
  replace c11 := f1.cell c11 (by omega)
  replace c12 := f1.cell c12 (by omega)
  replace hz : τ24.1 = b + 13 := f1.1.trans hz
  replace kp : ∀ q, q < b → τ24.2 q = σ.2 q := fun q h => (f1.2 q (by omega)).trans (kp q h)
  replace c0 : τ24.2 b = some (.inr (.inr (10, [.ref (b + 1), .ref (b + 2), .int 0, .int 0, .int 0, .int 0, .int 0, .int 0, .int 0, .int 0, .ref (b + 3), .int 0, .ref (b + 4), .ref (b + 5), .ref (b + 6), .ref (b + 7), .int 0, .ref (b + 8), .ref (b + 9), .ref (b + 10), .int 0, .int 0, .ref (b + 11), .int 0, .ref (b + 12), .null, .null, .int 0, .null, .null]))) := q1
  clear f1 q1
  refine Ev.aload_n rfl rfl ?_
  refine Ev.sipush (v := 4096) rfl (by decide) ?_
  refine Ev.newaE (t := 0) (N := 4096) hz rfl rfl rfl rfl rfl pa_0 (by decide) (by decide) (by decide) (by omega) (by omega) (fun τ25 hz1 hk c13 => ?_)
  replace c0 := (hk b (by omega)).trans c0
  replace c1 := (hk (b + 1) (by omega)).trans c1
  replace c2 := (hk (b + 2) (by omega)).trans c2
  replace c3 := (hk (b + 3) (by omega)).trans c3
  replace c4 := (hk (b + 4) (by omega)).trans c4
  replace c5 := (hk (b + 5) (by omega)).trans c5
  replace c6 := (hk (b + 6) (by omega)).trans c6
  replace c7 := (hk (b + 7) (by omega)).trans c7
  replace c8 := (hk (b + 8) (by omega)).trans c8
  replace c9 := (hk (b + 9) (by omega)).trans c9
  replace c10 := (hk (b + 10) (by omega)).trans c10
  replace c11 := (hk (b + 11) (by omega)).trans c11
  replace c12 := (hk (b + 12) (by omega)).trans c12
  replace kp : ∀ q, q < b → τ25.2 q = σ.2 q := fun q h => (hk q (by omega)).trans (kp q h)
  replace hz : τ25.1 = b + 14 := hz1
  clear hk hz1
  refine Ev.putFE rfl rfl c0 rfl rfl rfl rfl rfl (Nat.le_of_ble_eq_true rfl) (fun τ26 f1 q1 => ?_)
  replace c1 := f1.cell c1 (by omega)
  replace c2 := f1.cell c2 (by omega)
  replace c3 := f1.cell c3 (by omega)
  replace c4 := f1.cell c4 (by omega)
  replace c5 := f1.cell c5 (by omega)
  replace c6 := f1.cell c6 (by omega)
  replace c7 := f1.cell c7 (by omega)
  replace c8 := f1.cell c8 (by omega)
  replace c9 := f1.cell c9 (by omega)
  replace c10 := f1.cell c10 (by omega)
  replace c11 := f1.cell c11 (by omega)
  replace c12 := f1.cell c12 (by omega)
  replace c13 := f1.cell c13 (by omega)
  replace hz : τ26.1 = b + 14 := f1.1.trans hz
  replace kp : ∀ q, q < b → τ26.2 q = σ.2 q := fun q h => (f1.2 q (by omega)).trans (kp q h)
  replace c0 : τ26.2 b = some (.inr (.inr (10, [.ref (b + 1), .ref (b + 2), .int 0, .int 0, .int 0, .int 0, .int 0, .int 0, .int 0, .int 0, .ref (b + 3), .int 0, .ref (b + 4), .ref (b + 5), .ref (b + 6), .ref (b + 7), .int 0, .ref (b + 8), .ref (b + 9), .ref (b + 10), .int 0, .int 0, .ref (b + 11), .int 0, .ref (b + 12), .ref (b + 13), .null, .int 0, .null, .null]))) := q1
  clear f1 q1
  refine Ev.aload_n rfl rfl ?_
  refine Ev.sipush (v := 4096) rfl (by decide) ?_
  refine Ev.newaE (t := 0) (N := 4096) hz rfl rfl rfl rfl rfl pa_0 (by decide) (by decide) (by decide) (by omega) (by omega) (fun τ27 hz1 hk c14 => ?_)
  replace c0 := (hk b (by omega)).trans c0
  replace c1 := (hk (b + 1) (by omega)).trans c1
  replace c2 := (hk (b + 2) (by omega)).trans c2
  replace c3 := (hk (b + 3) (by omega)).trans c3
  replace c4 := (hk (b + 4) (by omega)).trans c4
  replace c5 := (hk (b + 5) (by omega)).trans c5
  replace c6 := (hk (b + 6) (by omega)).trans c6
  replace c7 := (hk (b + 7) (by omega)).trans c7
  replace c8 := (hk (b + 8) (by omega)).trans c8
  replace c9 := (hk (b + 9) (by omega)).trans c9
  replace c10 := (hk (b + 10) (by omega)).trans c10
  replace c11 := (hk (b + 11) (by omega)).trans c11
  replace c12 := (hk (b + 12) (by omega)).trans c12
  replace c13 := (hk (b + 13) (by omega)).trans c13
  replace kp : ∀ q, q < b → τ27.2 q = σ.2 q := fun q h => (hk q (by omega)).trans (kp q h)
  replace hz : τ27.1 = b + 15 := hz1
  clear hk hz1
  refine Ev.putFE rfl rfl c0 rfl rfl rfl rfl rfl (Nat.le_of_ble_eq_true rfl) (fun τ28 f1 q1 => ?_)
  replace c1 := f1.cell c1 (by omega)
  replace c2 := f1.cell c2 (by omega)
  replace c3 := f1.cell c3 (by omega)
  replace c4 := f1.cell c4 (by omega)
  replace c5 := f1.cell c5 (by omega)
  replace c6 := f1.cell c6 (by omega)
  replace c7 := f1.cell c7 (by omega)
  replace c8 := f1.cell c8 (by omega)
  replace c9 := f1.cell c9 (by omega)
  replace c10 := f1.cell c10 (by omega)
  replace c11 := f1.cell c11 (by omega)
  replace c12 := f1.cell c12 (by omega)
  replace c13 := f1.cell c13 (by omega)
  replace c14 := f1.cell c14 (by omega)
  replace hz : τ28.1 = b + 15 := f1.1.trans hz
  replace kp : ∀ q, q < b → τ28.2 q = σ.2 q := fun q h => (f1.2 q (by omega)).trans (kp q h)
  replace c0 : τ28.2 b = some (.inr (.inr (10, [.ref (b + 1), .ref (b + 2), .int 0, .int 0, .int 0, .int 0, .int 0, .int 0, .int 0, .int 0, .ref (b + 3), .int 0, .ref (b + 4), .ref (b + 5), .ref (b + 6), .ref (b + 7), .int 0, .ref (b + 8), .ref (b + 9), .ref (b + 10), .int 0, .int 0, .ref (b + 11), .int 0, .ref (b + 12), .ref (b + 13), .ref (b + 14), .int 0, .null, .null]))) := q1
  clear f1 q1
  refine Ev.aload_n rfl rfl ?_
  refine Ev.bipush (v := 6) rfl (by decide) ?_
  refine Ev.newaE (t := 0) (N := 6) hz rfl rfl rfl rfl rfl pa_0 (by decide) (by decide) (by decide) (by omega) (by omega) (fun τ29 hz1 hk c15 => ?_)
  replace c0 := (hk b (by omega)).trans c0
  replace c1 := (hk (b + 1) (by omega)).trans c1
  replace c2 := (hk (b + 2) (by omega)).trans c2
  replace c3 := (hk (b + 3) (by omega)).trans c3
  replace c4 := (hk (b + 4) (by omega)).trans c4
  replace c5 := (hk (b + 5) (by omega)).trans c5
  replace c6 := (hk (b + 6) (by omega)).trans c6
  replace c7 := (hk (b + 7) (by omega)).trans c7
  replace c8 := (hk (b + 8) (by omega)).trans c8
  replace c9 := (hk (b + 9) (by omega)).trans c9
  replace c10 := (hk (b + 10) (by omega)).trans c10
  replace c11 := (hk (b + 11) (by omega)).trans c11
  replace c12 := (hk (b + 12) (by omega)).trans c12
  replace c13 := (hk (b + 13) (by omega)).trans c13
  replace c14 := (hk (b + 14) (by omega)).trans c14
  replace kp : ∀ q, q < b → τ29.2 q = σ.2 q := fun q h => (hk q (by omega)).trans (kp q h)
  replace hz : τ29.1 = b + 16 := hz1
  clear hk hz1
  refine Ev.putFE rfl rfl c0 rfl rfl rfl rfl rfl (Nat.le_of_ble_eq_true rfl) (fun τ30 f1 q1 => ?_)
  replace c1 := f1.cell c1 (by omega)
  replace c2 := f1.cell c2 (by omega)
  replace c3 := f1.cell c3 (by omega)
  replace c4 := f1.cell c4 (by omega)
  replace c5 := f1.cell c5 (by omega)
  replace c6 := f1.cell c6 (by omega)
  replace c7 := f1.cell c7 (by omega)
  replace c8 := f1.cell c8 (by omega)
  replace c9 := f1.cell c9 (by omega)
  replace c10 := f1.cell c10 (by omega)
  replace c11 := f1.cell c11 (by omega)
  replace c12 := f1.cell c12 (by omega)
  replace c13 := f1.cell c13 (by omega)
  replace c14 := f1.cell c14 (by omega)
  replace c15 := f1.cell c15 (by omega)
  replace hz : τ30.1 = b + 16 := f1.1.trans hz
  replace kp : ∀ q, q < b → τ30.2 q = σ.2 q := fun q h => (f1.2 q (by omega)).trans (kp q h)
  replace c0 : τ30.2 b = some (.inr (.inr (10, [.ref (b + 1), .ref (b + 2), .int 0, .int 0, .int 0, .int 0, .int 0, .int 0, .int 0, .int 0, .ref (b + 3), .int 0, .ref (b + 4), .ref (b + 5), .ref (b + 6), .ref (b + 7), .int 0, .ref (b + 8), .ref (b + 9), .ref (b + 10), .int 0, .int 0, .ref (b + 11), .int 0, .ref (b + 12), .ref (b + 13), .ref (b + 14), .int 0, .ref (b + 15), .null]))) := q1
  clear f1 q1
  refine Ev.aload_n rfl rfl ?_
  refine Ev.bipush (v := 6) rfl (by decide) ?_
  refine Ev.newaE (t := 0) (N := 6) hz rfl rfl rfl rfl rfl pa_0 (by decide) (by decide) (by decide) (by omega) (by omega) (fun τ31 hz1 hk c16 => ?_)
  replace c0 := (hk b (by omega)).trans c0
  replace c1 := (hk (b + 1) (by omega)).trans c1
  replace c2 := (hk (b + 2) (by omega)).trans c2
  replace c3 := (hk (b + 3) (by omega)).trans c3
  replace c4 := (hk (b + 4) (by omega)).trans c4
  replace c5 := (hk (b + 5) (by omega)).trans c5
  replace c6 := (hk (b + 6) (by omega)).trans c6
  replace c7 := (hk (b + 7) (by omega)).trans c7
  replace c8 := (hk (b + 8) (by omega)).trans c8
  replace c9 := (hk (b + 9) (by omega)).trans c9
  replace c10 := (hk (b + 10) (by omega)).trans c10
  replace c11 := (hk (b + 11) (by omega)).trans c11
  replace c12 := (hk (b + 12) (by omega)).trans c12
  replace c13 := (hk (b + 13) (by omega)).trans c13
  replace c14 := (hk (b + 14) (by omega)).trans c14
  replace c15 := (hk (b + 15) (by omega)).trans c15
  replace kp : ∀ q, q < b → τ31.2 q = σ.2 q := fun q h => (hk q (by omega)).trans (kp q h)
  replace hz : τ31.1 = b + 17 := hz1
  clear hk hz1
  refine Ev.putFE rfl rfl c0 rfl rfl rfl rfl rfl (Nat.le_of_ble_eq_true rfl) (fun τ32 f1 q1 => ?_)
  replace c1 := f1.cell c1 (by omega)
  replace c2 := f1.cell c2 (by omega)
  replace c3 := f1.cell c3 (by omega)
  replace c4 := f1.cell c4 (by omega)
  replace c5 := f1.cell c5 (by omega)
  replace c6 := f1.cell c6 (by omega)
  replace c7 := f1.cell c7 (by omega)
  replace c8 := f1.cell c8 (by omega)
  replace c9 := f1.cell c9 (by omega)
  replace c10 := f1.cell c10 (by omega)
  replace c11 := f1.cell c11 (by omega)
  replace c12 := f1.cell c12 (by omega)
  replace c13 := f1.cell c13 (by omega)
  replace c14 := f1.cell c14 (by omega)
  replace c15 := f1.cell c15 (by omega)
  replace c16 := f1.cell c16 (by omega)
  replace hz : τ32.1 = b + 17 := f1.1.trans hz
  replace kp : ∀ q, q < b → τ32.2 q = σ.2 q := fun q h => (f1.2 q (by omega)).trans (kp q h)
  replace c0 : τ32.2 b = some (.inr (.inr (10, [.ref (b + 1), .ref (b + 2), .int 0, .int 0, .int 0, .int 0, .int 0, .int 0, .int 0, .int 0, .ref (b + 3), .int 0, .ref (b + 4), .ref (b + 5), .ref (b + 6), .ref (b + 7), .int 0, .ref (b + 8), .ref (b + 9), .ref (b + 10), .int 0, .int 0, .ref (b + 11), .int 0, .ref (b + 12), .ref (b + 13), .ref (b + 14), .int 0, .ref (b + 15), .ref (b + 16)]))) := q1
  clear f1 q1
  refine Ev.aload_n rfl rfl ?_
  refine Ev.getf rfl rfl c0 rfl ?_
  refine Ev.iconst (v := 4) rfl (by decide) ?_
  refine Ev.iconst (v := (-1)) rfl (by decide) ?_
  refine Ev.iastE (k := 4) rfl c1 (by decide) ⟨by decide, by decide⟩ (fun τ33 f1 q1 => ?_)
  replace c0 := f1.cell c0 (by omega)
  replace c2 := f1.cell c2 (by omega)
  replace c3 := f1.cell c3 (by omega)
  replace c4 := f1.cell c4 (by omega)
  replace c5 := f1.cell c5 (by omega)
  replace c6 := f1.cell c6 (by omega)
  replace c7 := f1.cell c7 (by omega)
  replace c8 := f1.cell c8 (by omega)
  replace c9 := f1.cell c9 (by omega)
  replace c10 := f1.cell c10 (by omega)
  replace c11 := f1.cell c11 (by omega)
  replace c12 := f1.cell c12 (by omega)
  replace c13 := f1.cell c13 (by omega)
  replace c14 := f1.cell c14 (by omega)
  replace c15 := f1.cell c15 (by omega)
  replace c16 := f1.cell c16 (by omega)
  replace hz : τ33.1 = b + 17 := f1.1.trans hz
  replace kp : ∀ q, q < b → τ33.2 q = σ.2 q := fun q h => (f1.2 q (by omega)).trans (kp q h)
  replace c1 := q1
  clear f1 q1
  refine Ev.ret rfl rfl (by omega) (by omega) ?_
  rw [← hQ]
  exact ⟨rfl, hz, kp, ⟨c0, c1, c2, c3, c4, c5, c6, c7, c8, c9, c10, c11, c12, c13, c14, c15, c16⟩⟩
end
end
