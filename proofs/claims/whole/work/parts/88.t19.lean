/-! What the constructors make, further. -/
noncomputable section
section
variable {Γ : ex_G} {σ : ex_S} {b : Nat}
theorem State_init_ok (hz : σ.1 = b + 1) (c0 : σ.2 b = some (.inr (.inr (1, [.null, .int 0, .int 0, .int 0, .null, .int 0, .null, .int 0])))) : RetN Γ m_State_init 60 1122 b σ 61 (fun τ => isT τ b T0) := by
  unfold RetN
  generalize hQ : (fun (r : Option Value) (τ : ex_S) => r = none ∧ τ.1 = b + 61 ∧ (∀ q, q < b → τ.2 q = σ.2 q) ∧ (fun τ : ex_S => isT τ b T0) τ) = Q
  refine Ret.start pm_63 rfl ?_
  have kp : ∀ q, q < b → σ.2 q = σ.2 q := fun _ _ => rfl
  refine Ev.aload_n rfl rfl ?_
  refine Ev.objInit rfl rfl rfl (Nat.le_of_ble_eq_true rfl) ?_
  refine Ev.aload_n rfl rfl ?_
  refine Ev.sipush (v := 600) rfl (by decide) ?_
  refine Ev.newaE (t := 1) (N := 600) hz rfl rfl rfl rfl rfl pa_1 (by decide) (by decide) (by decide) (by omega) (by omega) (fun τ1 hz1 hk c1 => ?_)
  replace c0 := (hk b (by omega)).trans c0
  replace kp : ∀ q, q < b → τ1.2 q = σ.2 q := fun q h => (hk q (by omega)).trans (kp q h)
  replace hz : τ1.1 = b + 2 := hz1
  clear hk hz1
  refine Ev.putFE rfl rfl c0 rfl rfl rfl rfl rfl (Nat.le_of_ble_eq_true rfl) (fun τ2 f1 q1 => ?_)
  replace c1 := f1.cell c1 (by omega)
  replace hz : τ2.1 = b + 2 := f1.1.trans hz
  replace kp : ∀ q, q < b → τ2.2 q = σ.2 q := fun q h => (f1.2 q (by omega)).trans (kp q h)
  replace c0 : τ2.2 b = some (.inr (.inr (1, [.ref (b + 1), .int 0, .int 0, .int 0, .null, .int 0, .null, .int 0]))) := q1
  clear f1 q1
  refine Ev.aload_n rfl rfl ?_
  refine Ev.iconst (v := 0) rfl (by decide) ?_
  refine Ev.putE rfl rfl c0 rfl rfl rfl (Nat.le_of_ble_eq_true rfl) (fun τ3 f1 q1 => ?_)
  replace c1 := f1.cell c1 (by omega)
  replace hz : τ3.1 = b + 2 := f1.1.trans hz
  replace kp : ∀ q, q < b → τ3.2 q = σ.2 q := fun q h => (f1.2 q (by omega)).trans (kp q h)
  replace c0 : τ3.2 b = some (.inr (.inr (1, [.ref (b + 1), .int 0, .int 0, .int 0, .null, .int 0, .null, .int 0]))) := q1
  clear f1 q1
  refine Ev.aload_n rfl rfl ?_
  refine Ev.iconst (v := 0) rfl (by decide) ?_
  refine Ev.putE rfl rfl c0 rfl rfl rfl (Nat.le_of_ble_eq_true rfl) (fun τ4 f1 q1 => ?_)
  replace c1 := f1.cell c1 (by omega)
  replace hz : τ4.1 = b + 2 := f1.1.trans hz
  replace kp : ∀ q, q < b → τ4.2 q = σ.2 q := fun q h => (f1.2 q (by omega)).trans (kp q h)
  replace c0 : τ4.2 b = some (.inr (.inr (1, [.ref (b + 1), .int 0, .int 0, .int 0, .null, .int 0, .null, .int 0]))) := q1
  clear f1 q1
  refine Ev.aload_n rfl rfl ?_
  refine Ev.iconst (v := (-1)) rfl (by decide) ?_
  refine Ev.putE rfl rfl c0 rfl rfl rfl (Nat.le_of_ble_eq_true rfl) (fun τ5 f1 q1 => ?_)
  replace c1 := f1.cell c1 (by omega)
  replace hz : τ5.1 = b + 2 := f1.1.trans hz
  replace kp : ∀ q, q < b → τ5.2 q = σ.2 q := fun q h => (f1.2 q (by omega)).trans (kp q h)
  replace c0 : τ5.2 b = some (.inr (.inr (1, [.ref (b + 1), .int 0, .int 0, .int (-1), .null, .int 0, .null, .int 0]))) := q1
  clear f1 q1
  refine Ev.aload_n rfl rfl ?_
  refine Ev.iconst (v := 3) rfl (by decide) ?_
  refine Ev.anewE (t := 3) (N := 3) hz rfl rfl rfl rfl pa_3 (by decide) (by decide) (by decide) (by omega) (by omega) (fun τ6 hz1 hk c2 => ?_)
  replace c0 := (hk b (by omega)).trans c0
  replace c1 := (hk (b + 1) (by omega)).trans c1
  replace kp : ∀ q, q < b → τ6.2 q = σ.2 q := fun q h => (hk q (by omega)).trans (kp q h)
  replace hz : τ6.1 = b + 3 := hz1
  clear hk hz1
  refine Ev.putFE rfl rfl c0 rfl rfl rfl rfl rfl (Nat.le_of_ble_eq_true rfl) (fun τ7 f1 q1 => ?_)
  replace c1 := f1.cell c1 (by omega)
  replace c2 := f1.cell c2 (by omega)
  replace hz : τ7.1 = b + 3 := f1.1.trans hz
  replace kp : ∀ q, q < b → τ7.2 q = σ.2 q := fun q h => (f1.2 q (by omega)).trans (kp q h)
  replace c0 : τ7.2 b = some (.inr (.inr (1, [.ref (b + 1), .int 0, .int 0, .int (-1), .ref (b + 2), .int 0, .null, .int 0]))) := q1
  clear f1 q1
  refine Ev.aload_n rfl rfl ?_
  refine Ev.iconst (v := 0) rfl (by decide) ?_
  refine Ev.putE rfl rfl c0 rfl rfl rfl (Nat.le_of_ble_eq_true rfl) (fun τ8 f1 q1 => ?_)
  replace c1 := f1.cell c1 (by omega)
  replace c2 := f1.cell c2 (by omega)
  replace hz : τ8.1 = b + 3 := f1.1.trans hz
  replace kp : ∀ q, q < b → τ8.2 q = σ.2 q := fun q h => (f1.2 q (by omega)).trans (kp q h)
  replace c0 : τ8.2 b = some (.inr (.inr (1, [.ref (b + 1), .int 0, .int 0, .int (-1), .ref (b + 2), .int 0, .null, .int 0]))) := q1
  clear f1 q1
  refine Ev.aload_n rfl rfl ?_
  refine Ev.iconst (v := 3) rfl (by decide) ?_
  refine Ev.anewE (t := 4) (N := 3) hz rfl rfl rfl rfl pa_4 (by decide) (by decide) (by decide) (by omega) (by omega) (fun τ9 hz1 hk c3 => ?_)
  replace c0 := (hk b (by omega)).trans c0
  replace c1 := (hk (b + 1) (by omega)).trans c1
  replace c2 := (hk (b + 2) (by omega)).trans c2
  replace kp : ∀ q, q < b → τ9.2 q = σ.2 q := fun q h => (hk q (by omega)).trans (kp q h)
  replace hz : τ9.1 = b + 4 := hz1
  clear hk hz1
  refine Ev.putFE rfl rfl c0 rfl rfl rfl rfl rfl (Nat.le_of_ble_eq_true rfl) (fun τ10 f1 q1 => ?_)
  replace c1 := f1.cell c1 (by omega)
  replace c2 := f1.cell c2 (by omega)
  replace c3 := f1.cell c3 (by omega)
  replace hz : τ10.1 = b + 4 := f1.1.trans hz
  replace kp : ∀ q, q < b → τ10.2 q = σ.2 q := fun q h => (f1.2 q (by omega)).trans (kp q h)
  replace c0 : τ10.2 b = some (.inr (.inr (1, [.ref (b + 1), .int 0, .int 0, .int (-1), .ref (b + 2), .int 0, .ref (b + 3), .int 0]))) := q1
  clear f1 q1
  refine Ev.aload_n rfl rfl ?_
  refine Ev.iconst (v := 0) rfl (by decide) ?_
  refine Ev.putE rfl rfl c0 rfl rfl rfl (Nat.le_of_ble_eq_true rfl) (fun τ11 f1 q1 => ?_)
  replace c1 := f1.cell c1 (by omega)
  replace c2 := f1.cell c2 (by omega)
  replace c3 := f1.cell c3 (by omega)
  replace hz : τ11.1 = b + 4 := f1.1.trans hz
  replace kp : ∀ q, q < b → τ11.2 q = σ.2 q := fun q h => (f1.2 q (by omega)).trans (kp q h)
  replace c0 : τ11.2 b = some (.inr (.inr (1, [.ref (b + 1), .int 0, .int 0, .int (-1), .ref (b + 2), .int 0, .ref (b + 3), .int 0]))) := q1
  clear f1 q1
  refine Ev.iconst (v := 0) rfl (by decide) ?_
  refine Ev.istore_n rfl rfl rfl ?_
  refine Ev.iload_n rfl rfl ?_
  refine Ev.iconst (v := 3) rfl (by decide) ?_
  refine Ev.icmp_ge (tgt := 93) rfl (by decide) (fun c => absurd c (by decide)) (fun c => ?_)
  refine Ev.aload_n rfl rfl ?_
  refine Ev.getf rfl rfl c0 rfl ?_
  refine Ev.iload_n rfl rfl ?_
  refine Ev.newcE (nf := 12) (fs := [.int 0, .null, .null, .null, .null, .null, .int 0, .null, .null, .null, .null, .null]) hz rfl rfl rfl rfl (fun j hj => by have hj : j < 12 := hj; match j, hj with | 0, _ => rfl | 1, _ => rfl | 2, _ => rfl | 3, _ => rfl | 4, _ => rfl | 5, _ => rfl | 6, _ => rfl | 7, _ => rfl | 8, _ => rfl | 9, _ => rfl | 10, _ => rfl | 11, _ => rfl) (by omega) (by omega) (fun τ12 hz1 hk c4 => ?_)
  replace c0 := (hk b (by omega)).trans c0
  replace c1 := (hk (b + 1) (by omega)).trans c1
  replace c2 := (hk (b + 2) (by omega)).trans c2
  replace c3 := (hk (b + 3) (by omega)).trans c3
  replace kp : ∀ q, q < b → τ12.2 q = σ.2 q := fun q h => (hk q (by omega)).trans (kp q h)
  replace hz : τ12.1 = b + 5 := hz1
  clear hk hz1
  refine Ev.dup rfl rfl ?_
  refine Ev.mkIN rfl rfl rfl rfl ⟨by omega, by omega⟩ (School_init_ok hz c4) (fun τ13 hz1 hk c4 => ?_)
  replace c0 := (hk b (by omega)).trans c0
  replace c1 := (hk (b + 1) (by omega)).trans c1
  replace c2 := (hk (b + 2) (by omega)).trans c2
  replace c3 := (hk (b + 3) (by omega)).trans c3
  replace kp : ∀ q, q < b → τ13.2 q = σ.2 q := fun q h => (hk q (by omega)).trans (kp q h)
  replace hz : τ13.1 = b + 15 := hz1
  clear hk hz1
  refine Ev.aastE (k := 0) rfl c2 rfl rfl c4.1 (by decide) ⟨by decide, by decide⟩ (fun τ14 f1 q1 => ?_)
  replace c0 := f1.cell c0 (by omega)
  replace c1 := f1.cell c1 (by omega)
  replace c3 := f1.cell c3 (by omega)
  replace c4 := c4.frm f1 (by omega)
  replace hz : τ14.1 = b + 15 := f1.1.trans hz
  replace kp : ∀ q, q < b → τ14.2 q = σ.2 q := fun q h => (f1.2 q (by omega)).trans (kp q h)
  replace c2 : τ14.2 (b + 2) = some (.inr (.inl (3, 3, va_up (fun _ => none) 0 (some (b + 4))))) := q1
  clear f1 q1
  refine Ev.aload_n rfl rfl ?_
  refine Ev.getf rfl rfl c0 rfl ?_
  refine Ev.iload_n rfl rfl ?_
  refine Ev.newcE (nf := 2) (fs := [.int 0, .null]) hz rfl rfl rfl rfl (fun j hj => by have hj : j < 2 := hj; match j, hj with | 0, _ => rfl | 1, _ => rfl) (by omega) (by omega) (fun τ15 hz1 hk c15 => ?_)
  replace c0 := (hk b (by omega)).trans c0
  replace c1 := (hk (b + 1) (by omega)).trans c1
  replace c2 := (hk (b + 2) (by omega)).trans c2
  replace c3 := (hk (b + 3) (by omega)).trans c3
  replace c4 := c4.keep (fun q h1 h2 => hk q (by omega))
  replace kp : ∀ q, q < b → τ15.2 q = σ.2 q := fun q h => (hk q (by omega)).trans (kp q h)
  replace hz : τ15.1 = b + 16 := hz1
  clear hk hz1
  refine Ev.dup rfl rfl ?_
  refine Ev.mkI rfl rfl rfl rfl ⟨by omega, by omega⟩ (Plan_init_ok hz c15) (fun τ16 hz1 hk c15 => ?_)
  replace c0 := (hk b (by omega)).trans c0
  replace c1 := (hk (b + 1) (by omega)).trans c1
  replace c2 := (hk (b + 2) (by omega)).trans c2
  replace c3 := (hk (b + 3) (by omega)).trans c3
  replace c4 := c4.keep (fun q h1 h2 => hk q (by omega))
  replace kp : ∀ q, q < b → τ16.2 q = σ.2 q := fun q h => (hk q (by omega)).trans (kp q h)
  replace hz : τ16.1 = b + 23 := hz1
  clear hk hz1
  refine Ev.aastE (k := 0) rfl c3 rfl rfl c15.1 (by decide) ⟨by decide, by decide⟩ (fun τ17 f1 q1 => ?_)
  replace c0 := f1.cell c0 (by omega)
  replace c1 := f1.cell c1 (by omega)
  replace c2 := f1.cell c2 (by omega)
  replace c4 := c4.frm f1 (by omega)
  replace c15 := c15.frm f1 (by omega)
  replace hz : τ17.1 = b + 23 := f1.1.trans hz
  replace kp : ∀ q, q < b → τ17.2 q = σ.2 q := fun q h => (f1.2 q (by omega)).trans (kp q h)
  replace c3 : τ17.2 (b + 3) = some (.inr (.inl (4, 3, va_up (fun _ => none) 0 (some (b + 15))))) := q1
  clear f1 q1
  refine Ev.iinc (d := 1) rfl rfl rfl (by decide) rfl ?_
  refine Ev.goto (tgt := 56) rfl (by decide) ?_
  refine Ev.iload_n rfl rfl ?_
  refine Ev.iconst (v := 3) rfl (by decide) ?_
  refine Ev.icmp_ge (tgt := 93) rfl (by decide) (fun c => absurd c (by decide)) (fun c => ?_)
  refine Ev.aload_n rfl rfl ?_
  refine Ev.getf rfl rfl c0 rfl ?_
  refine Ev.iload_n rfl rfl ?_
  refine Ev.newcE (nf := 12) (fs := [.int 0, .null, .null, .null, .null, .null, .int 0, .null, .null, .null, .null, .null]) hz rfl rfl rfl rfl (fun j hj => by have hj : j < 12 := hj; match j, hj with | 0, _ => rfl | 1, _ => rfl | 2, _ => rfl | 3, _ => rfl | 4, _ => rfl | 5, _ => rfl | 6, _ => rfl | 7, _ => rfl | 8, _ => rfl | 9, _ => rfl | 10, _ => rfl | 11, _ => rfl) (by omega) (by omega) (fun τ18 hz1 hk c23 => ?_)
  replace c0 := (hk b (by omega)).trans c0
  replace c1 := (hk (b + 1) (by omega)).trans c1
  replace c2 := (hk (b + 2) (by omega)).trans c2
  replace c3 := (hk (b + 3) (by omega)).trans c3
  replace c4 := c4.keep (fun q h1 h2 => hk q (by omega))
  replace c15 := c15.keep (fun q h1 h2 => hk q (by omega))
  replace kp : ∀ q, q < b → τ18.2 q = σ.2 q := fun q h => (hk q (by omega)).trans (kp q h)
  replace hz : τ18.1 = b + 24 := hz1
  clear hk hz1
  refine Ev.dup rfl rfl ?_
  refine Ev.mkIN rfl rfl rfl rfl ⟨by omega, by omega⟩ (School_init_ok hz c23) (fun τ19 hz1 hk c23 => ?_)
  replace c0 := (hk b (by omega)).trans c0
  replace c1 := (hk (b + 1) (by omega)).trans c1
  replace c2 := (hk (b + 2) (by omega)).trans c2
  replace c3 := (hk (b + 3) (by omega)).trans c3
  replace c4 := c4.keep (fun q h1 h2 => hk q (by omega))
  replace c15 := c15.keep (fun q h1 h2 => hk q (by omega))
  replace kp : ∀ q, q < b → τ19.2 q = σ.2 q := fun q h => (hk q (by omega)).trans (kp q h)
  replace hz : τ19.1 = b + 34 := hz1
  clear hk hz1
  refine Ev.aastE (k := 1) rfl c2 rfl rfl c23.1 (by decide) ⟨by decide, by decide⟩ (fun τ20 f1 q1 => ?_)
  replace c0 := f1.cell c0 (by omega)
  replace c1 := f1.cell c1 (by omega)
  replace c3 := f1.cell c3 (by omega)
  replace c4 := c4.frm f1 (by omega)
  replace c15 := c15.frm f1 (by omega)
  replace c23 := c23.frm f1 (by omega)
  replace hz : τ20.1 = b + 34 := f1.1.trans hz
  replace kp : ∀ q, q < b → τ20.2 q = σ.2 q := fun q h => (f1.2 q (by omega)).trans (kp q h)
  replace c2 : τ20.2 (b + 2) = some (.inr (.inl (3, 3, va_up (va_up (fun _ => none) 0 (some (b + 4))) 1 (some (b + 23))))) := q1
  clear f1 q1
  refine Ev.aload_n rfl rfl ?_
  refine Ev.getf rfl rfl c0 rfl ?_
  refine Ev.iload_n rfl rfl ?_
  refine Ev.newcE (nf := 2) (fs := [.int 0, .null]) hz rfl rfl rfl rfl (fun j hj => by have hj : j < 2 := hj; match j, hj with | 0, _ => rfl | 1, _ => rfl) (by omega) (by omega) (fun τ21 hz1 hk c34 => ?_)
  replace c0 := (hk b (by omega)).trans c0
  replace c1 := (hk (b + 1) (by omega)).trans c1
  replace c2 := (hk (b + 2) (by omega)).trans c2
  replace c3 := (hk (b + 3) (by omega)).trans c3
  replace c4 := c4.keep (fun q h1 h2 => hk q (by omega))
  replace c15 := c15.keep (fun q h1 h2 => hk q (by omega))
  replace c23 := c23.keep (fun q h1 h2 => hk q (by omega))
  replace kp : ∀ q, q < b → τ21.2 q = σ.2 q := fun q h => (hk q (by omega)).trans (kp q h)
  replace hz : τ21.1 = b + 35 := hz1
  clear hk hz1
  refine Ev.dup rfl rfl ?_
  refine Ev.mkI rfl rfl rfl rfl ⟨by omega, by omega⟩ (Plan_init_ok hz c34) (fun τ22 hz1 hk c34 => ?_)
  replace c0 := (hk b (by omega)).trans c0
  replace c1 := (hk (b + 1) (by omega)).trans c1
  replace c2 := (hk (b + 2) (by omega)).trans c2
  replace c3 := (hk (b + 3) (by omega)).trans c3
  replace c4 := c4.keep (fun q h1 h2 => hk q (by omega))
  replace c15 := c15.keep (fun q h1 h2 => hk q (by omega))
  replace c23 := c23.keep (fun q h1 h2 => hk q (by omega))
  replace kp : ∀ q, q < b → τ22.2 q = σ.2 q := fun q h => (hk q (by omega)).trans (kp q h)
  replace hz : τ22.1 = b + 42 := hz1
  clear hk hz1
  refine Ev.aastE (k := 1) rfl c3 rfl rfl c34.1 (by decide) ⟨by decide, by decide⟩ (fun τ23 f1 q1 => ?_)
  replace c0 := f1.cell c0 (by omega)
  replace c1 := f1.cell c1 (by omega)
  replace c2 := f1.cell c2 (by omega)
  replace c4 := c4.frm f1 (by omega)
  replace c15 := c15.frm f1 (by omega)
  replace c23 := c23.frm f1 (by omega)
  replace c34 := c34.frm f1 (by omega)
  replace hz : τ23.1 = b + 42 := f1.1.trans hz
  replace kp : ∀ q, q < b → τ23.2 q = σ.2 q := fun q h => (f1.2 q (by omega)).trans (kp q h)
  replace c3 : τ23.2 (b + 3) = some (.inr (.inl (4, 3, va_up (va_up (fun _ => none) 0 (some (b + 15))) 1 (some (b + 34))))) := q1
  clear f1 q1
  refine Ev.iinc (d := 1) rfl rfl rfl (by decide) rfl ?_
  refine Ev.goto (tgt := 56) rfl (by decide) ?_
  refine Ev.iload_n rfl rfl ?_
  refine Ev.iconst (v := 3) rfl (by decide) ?_
  refine Ev.icmp_ge (tgt := 93) rfl (by decide) (fun c => absurd c (by decide)) (fun c => ?_)
  refine Ev.aload_n rfl rfl ?_
  refine Ev.getf rfl rfl c0 rfl ?_
  refine Ev.iload_n rfl rfl ?_
  refine Ev.newcE (nf := 12) (fs := [.int 0, .null, .null, .null, .null, .null, .int 0, .null, .null, .null, .null, .null]) hz rfl rfl rfl rfl (fun j hj => by have hj : j < 12 := hj; match j, hj with | 0, _ => rfl | 1, _ => rfl | 2, _ => rfl | 3, _ => rfl | 4, _ => rfl | 5, _ => rfl | 6, _ => rfl | 7, _ => rfl | 8, _ => rfl | 9, _ => rfl | 10, _ => rfl | 11, _ => rfl) (by omega) (by omega) (fun τ24 hz1 hk c42 => ?_)
  replace c0 := (hk b (by omega)).trans c0
  replace c1 := (hk (b + 1) (by omega)).trans c1
  replace c2 := (hk (b + 2) (by omega)).trans c2
  replace c3 := (hk (b + 3) (by omega)).trans c3
  replace c4 := c4.keep (fun q h1 h2 => hk q (by omega))
  replace c15 := c15.keep (fun q h1 h2 => hk q (by omega))
  replace c23 := c23.keep (fun q h1 h2 => hk q (by omega))
  replace c34 := c34.keep (fun q h1 h2 => hk q (by omega))
  replace kp : ∀ q, q < b → τ24.2 q = σ.2 q := fun q h => (hk q (by omega)).trans (kp q h)
  replace hz : τ24.1 = b + 43 := hz1
  clear hk hz1
  refine Ev.dup rfl rfl ?_
  refine Ev.mkIN rfl rfl rfl rfl ⟨by omega, by omega⟩ (School_init_ok hz c42) (fun τ25 hz1 hk c42 => ?_)
  replace c0 := (hk b (by omega)).trans c0
  replace c1 := (hk (b + 1) (by omega)).trans c1
  replace c2 := (hk (b + 2) (by omega)).trans c2
  replace c3 := (hk (b + 3) (by omega)).trans c3
  replace c4 := c4.keep (fun q h1 h2 => hk q (by omega))
  replace c15 := c15.keep (fun q h1 h2 => hk q (by omega))
  replace c23 := c23.keep (fun q h1 h2 => hk q (by omega))
  replace c34 := c34.keep (fun q h1 h2 => hk q (by omega))
  replace kp : ∀ q, q < b → τ25.2 q = σ.2 q := fun q h => (hk q (by omega)).trans (kp q h)
  replace hz : τ25.1 = b + 53 := hz1
  clear hk hz1
  refine Ev.aastE (k := 2) rfl c2 rfl rfl c42.1 (by decide) ⟨by decide, by decide⟩ (fun τ26 f1 q1 => ?_)
  replace c0 := f1.cell c0 (by omega)
  replace c1 := f1.cell c1 (by omega)
  replace c3 := f1.cell c3 (by omega)
  replace c4 := c4.frm f1 (by omega)
  replace c15 := c15.frm f1 (by omega)
  replace c23 := c23.frm f1 (by omega)
  replace c34 := c34.frm f1 (by omega)
  replace c42 := c42.frm f1 (by omega)
  replace hz : τ26.1 = b + 53 := f1.1.trans hz
  replace kp : ∀ q, q < b → τ26.2 q = σ.2 q := fun q h => (f1.2 q (by omega)).trans (kp q h)
  replace c2 : τ26.2 (b + 2) = some (.inr (.inl (3, 3, va_up (va_up (va_up (fun _ => none) 0 (some (b + 4))) 1 (some (b + 23))) 2 (some (b + 42))))) := q1
  clear f1 q1
  refine Ev.aload_n rfl rfl ?_
  refine Ev.getf rfl rfl c0 rfl ?_
  refine Ev.iload_n rfl rfl ?_
  refine Ev.newcE (nf := 2) (fs := [.int 0, .null]) hz rfl rfl rfl rfl (fun j hj => by have hj : j < 2 := hj; match j, hj with | 0, _ => rfl | 1, _ => rfl) (by omega) (by omega) (fun τ27 hz1 hk c53 => ?_)
  replace c0 := (hk b (by omega)).trans c0
  replace c1 := (hk (b + 1) (by omega)).trans c1
  replace c2 := (hk (b + 2) (by omega)).trans c2
  replace c3 := (hk (b + 3) (by omega)).trans c3
  replace c4 := c4.keep (fun q h1 h2 => hk q (by omega))
  replace c15 := c15.keep (fun q h1 h2 => hk q (by omega))
  replace c23 := c23.keep (fun q h1 h2 => hk q (by omega))
  replace c34 := c34.keep (fun q h1 h2 => hk q (by omega))
  replace c42 := c42.keep (fun q h1 h2 => hk q (by omega))
  replace kp : ∀ q, q < b → τ27.2 q = σ.2 q := fun q h => (hk q (by omega)).trans (kp q h)
  replace hz : τ27.1 = b + 54 := hz1
  clear hk hz1
  refine Ev.dup rfl rfl ?_
  refine Ev.mkI rfl rfl rfl rfl ⟨by omega, by omega⟩ (Plan_init_ok hz c53) (fun τ28 hz1 hk c53 => ?_)
  replace c0 := (hk b (by omega)).trans c0
  replace c1 := (hk (b + 1) (by omega)).trans c1
  replace c2 := (hk (b + 2) (by omega)).trans c2
  replace c3 := (hk (b + 3) (by omega)).trans c3
  replace c4 := c4.keep (fun q h1 h2 => hk q (by omega))
  replace c15 := c15.keep (fun q h1 h2 => hk q (by omega))
  replace c23 := c23.keep (fun q h1 h2 => hk q (by omega))
  replace c34 := c34.keep (fun q h1 h2 => hk q (by omega))
  replace c42 := c42.keep (fun q h1 h2 => hk q (by omega))
  replace kp : ∀ q, q < b → τ28.2 q = σ.2 q := fun q h => (hk q (by omega)).trans (kp q h)
  replace hz : τ28.1 = b + 61 := hz1
  clear hk hz1
  refine Ev.aastE (k := 2) rfl c3 rfl rfl c53.1 (by decide) ⟨by decide, by decide⟩ (fun τ29 f1 q1 => ?_)
  replace c0 := f1.cell c0 (by omega)
  replace c1 := f1.cell c1 (by omega)
  replace c2 := f1.cell c2 (by omega)
  replace c4 := c4.frm f1 (by omega)
  replace c15 := c15.frm f1 (by omega)
  replace c23 := c23.frm f1 (by omega)
  replace c34 := c34.frm f1 (by omega)
  replace c42 := c42.frm f1 (by omega)
  replace c53 := c53.frm f1 (by omega)
  replace hz : τ29.1 = b + 61 := f1.1.trans hz
  replace kp : ∀ q, q < b → τ29.2 q = σ.2 q := fun q h => (f1.2 q (by omega)).trans (kp q h)
  replace c3 : τ29.2 (b + 3) = some (.inr (.inl (4, 3, va_up (va_up (va_up (fun _ => none) 0 (some (b + 15))) 1 (some (b + 34))) 2 (some (b + 53))))) := q1
  clear f1 q1
  refine Ev.iinc (d := 1) rfl rfl rfl (by decide) rfl ?_
  refine Ev.goto (tgt := 56) rfl (by decide) ?_
  refine Ev.iload_n rfl rfl ?_
  refine Ev.iconst (v := 3) rfl (by decide) ?_
  refine Ev.icmp_ge (tgt := 93) rfl (by decide) (fun c => ?_) (fun c => absurd (by decide) c)
  refine Ev.ret rfl rfl (by omega) (by omega) ?_
  rw [← hQ]
  exact ⟨rfl, hz, kp, ⟨c0, c1, ⟨_, c2, fun k hk => by match k, hk with | 0, _ => rfl | 1, _ => rfl | 2, _ => rfl⟩, ⟨_, c3, fun k hk => by match k, hk with | 0, _ => rfl | 1, _ => rfl | 2, _ => rfl⟩, fun k hk => by match k, hk with | 0, _ => exact c4 | 1, _ => exact c23 | 2, _ => exact c42, fun k hk => by match k, hk with | 0, _ => exact c15 | 1, _ => exact c34 | 2, _ => exact c53⟩⟩
end
end
