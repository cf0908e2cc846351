/-! What the constructor of the class makes. -/
noncomputable section
section
variable {Γ : ex_G} {σ : ex_S} {b : Nat}
theorem SD_init_ok (hz : σ.1 = b + 1) (c0 : σ.2 b = some (.inr (.inr (0, [.null, .null, .null, .null, .null, .null, .null, .null, .null, .null, .null])))) : RetN Γ m_SD_init 116 2897 b σ 117 (fun τ => isX τ b ∧ isT τ (b + 1) T0 ∧ τ.2 (b + 62) = some (.inr (.inl (6, 3, fun _ => none))) ∧ jR τ (b + 63) ∧ isS τ (b + 84) S0 ∧ isL τ (b + 95) L0 ∧ jN τ (b + 96) ∧ jH τ (b + 104) ∧ jB τ (b + 108) ∧ jE τ (b + 112) ∧ τ.2 (b + 115) = some (.inl (0, 3, fun _ => 0)) ∧ τ.2 (b + 116) = some (.inl (0, 16, fun _ => 0))) := by
  unfold RetN
  generalize hQ : (fun (r : Option Value) (τ : ex_S) => r = none ∧ τ.1 = b + 117 ∧ (∀ q, q < b → τ.2 q = σ.2 q) ∧ (fun τ : ex_S => isX τ b ∧ isT τ (b + 1) T0 ∧ τ.2 (b + 62) = some (.inr (.inl (6, 3, fun _ => none))) ∧ jR τ (b + 63) ∧ isS τ (b + 84) S0 ∧ isL τ (b + 95) L0 ∧ jN τ (b + 96) ∧ jH τ (b + 104) ∧ jB τ (b + 108) ∧ jE τ (b + 112) ∧ τ.2 (b + 115) = some (.inl (0, 3, fun _ => 0)) ∧ τ.2 (b + 116) = some (.inl (0, 16, fun _ => 0))) τ) = Q
  refine Ret.start pm_1 rfl ?_
  have kp : ∀ q, q < b → σ.2 q = σ.2 q := fun _ _ => rfl
  refine Ev.aload_n rfl rfl ?_
  refine Ev.objInit rfl rfl rfl (Nat.le_of_ble_eq_true rfl) ?_
  refine Ev.aload_n rfl rfl ?_
  refine Ev.newcE (nf := 8) (fs := [.null, .int 0, .int 0, .int 0, .null, .int 0, .null, .int 0]) hz rfl rfl rfl rfl (fun j hj => by have hj : j < 8 := hj; match j, hj with | 0, _ => rfl | 1, _ => rfl | 2, _ => rfl | 3, _ => rfl | 4, _ => rfl | 5, _ => rfl | 6, _ => rfl | 7, _ => rfl) (by omega) (by omega) (fun τ1 hz1 hk c1 => ?_)
  replace c0 := (hk b (by omega)).trans c0
  replace kp : ∀ q, q < b → τ1.2 q = σ.2 q := fun q h => (hk q (by omega)).trans (kp q h)
  replace hz : τ1.1 = b + 2 := hz1
  clear hk hz1
  refine Ev.dup rfl rfl ?_
  refine Ev.mkI rfl rfl rfl rfl ⟨by omega, by omega⟩ (State_init_ok hz c1) (fun τ2 hz1 hk c1 => ?_)
  replace c0 := (hk b (by omega)).trans c0
  replace kp : ∀ q, q < b → τ2.2 q = σ.2 q := fun q h => (hk q (by omega)).trans (kp q h)
  replace hz : τ2.1 = b + 62 := hz1
  clear hk hz1
  refine Ev.putFE rfl rfl c0 rfl rfl rfl rfl rfl (Nat.le_of_ble_eq_true rfl) (fun τ3 f1 q1 => ?_)
  replace c1 := c1.frm f1 (by omega)
  replace hz : τ3.1 = b + 62 := f1.1.trans hz
  replace kp : ∀ q, q < b → τ3.2 q = σ.2 q := fun q h => (f1.2 q (by omega)).trans (kp q h)
  replace c0 : τ3.2 b = some (.inr (.inr (0, [.ref (b + 1), .null, .null, .null, .null, .null, .null, .null, .null, .null, .null]))) := q1
  clear f1 q1
  refine Ev.aload_n rfl rfl ?_
  refine Ev.iconst (v := 3) rfl (by decide) ?_
  refine Ev.anewE (t := 6) (N := 3) hz rfl rfl rfl rfl pa_6 (by decide) (by decide) (by decide) (by omega) (by omega) (fun τ4 hz1 hk c62 => ?_)
  replace c0 := (hk b (by omega)).trans c0
  replace c1 := c1.keep (fun q h1 h2 => hk q (by omega))
  replace kp : ∀ q, q < b → τ4.2 q = σ.2 q := fun q h => (hk q (by omega)).trans (kp q h)
  replace hz : τ4.1 = b + 63 := hz1
  clear hk hz1
  refine Ev.putFE rfl rfl c0 rfl rfl rfl rfl rfl (Nat.le_of_ble_eq_true rfl) (fun τ5 f1 q1 => ?_)
  replace c1 := c1.frm f1 (by omega)
  replace c62 := f1.cell c62 (by omega)
  replace hz : τ5.1 = b + 63 := f1.1.trans hz
  replace kp : ∀ q, q < b → τ5.2 q = σ.2 q := fun q h => (f1.2 q (by omega)).trans (kp q h)
  replace c0 : τ5.2 b = some (.inr (.inr (0, [.ref (b + 1), .ref (b + 62), .null, .null, .null, .null, .null, .null, .null, .null, .null]))) := q1
  clear f1 q1
  refine Ev.aload_n rfl rfl ?_
  refine Ev.newcE (nf := 12) (fs := [.null, .null, .int 0, .int 0, .null, .int 0, .int 0, .int 0, .int 0, .int 0, .null, .int 0]) hz rfl rfl rfl rfl (fun j hj => by have hj : j < 12 := hj; match j, hj with | 0, _ => rfl | 1, _ => rfl | 2, _ => rfl | 3, _ => rfl | 4, _ => rfl | 5, _ => rfl | 6, _ => rfl | 7, _ => rfl | 8, _ => rfl | 9, _ => rfl | 10, _ => rfl | 11, _ => rfl) (by omega) (by omega) (fun τ6 hz1 hk c63 => ?_)
  replace c0 := (hk b (by omega)).trans c0
  replace c1 := c1.keep (fun q h1 h2 => hk q (by omega))
  replace c62 := (hk (b + 62) (by omega)).trans c62
  replace kp : ∀ q, q < b → τ6.2 q = σ.2 q := fun q h => (hk q (by omega)).trans (kp q h)
  replace hz : τ6.1 = b + 64 := hz1
  clear hk hz1
  refine Ev.dup rfl rfl ?_
  refine Ev.mkIN rfl rfl rfl rfl ⟨by omega, by omega⟩ (Reader_init_ok hz c63) (fun τ7 hz1 hk c63 => ?_)
  replace c0 := (hk b (by omega)).trans c0
  replace c1 := c1.keep (fun q h1 h2 => hk q (by omega))
  replace c62 := (hk (b + 62) (by omega)).trans c62
  replace kp : ∀ q, q < b → τ7.2 q = σ.2 q := fun q h => (hk q (by omega)).trans (kp q h)
  replace hz : τ7.1 = b + 84 := hz1
  clear hk hz1
  refine Ev.putFE rfl rfl c0 rfl rfl rfl rfl rfl (Nat.le_of_ble_eq_true rfl) (fun τ8 f1 q1 => ?_)
  replace c1 := c1.frm f1 (by omega)
  replace c62 := f1.cell c62 (by omega)
  replace c63 := c63.keep (fun q h1 h2 => f1.2 q (by omega))
  replace hz : τ8.1 = b + 84 := f1.1.trans hz
  replace kp : ∀ q, q < b → τ8.2 q = σ.2 q := fun q h => (f1.2 q (by omega)).trans (kp q h)
  replace c0 : τ8.2 b = some (.inr (.inr (0, [.ref (b + 1), .ref (b + 62), .ref (b + 63), .null, .null, .null, .null, .null, .null, .null, .null]))) := q1
  clear f1 q1
  refine Ev.aload_n rfl rfl ?_
  refine Ev.newcE (nf := 12) (fs := [.int 0, .null, .null, .null, .null, .null, .int 0, .null, .null, .null, .null, .null]) hz rfl rfl rfl rfl (fun j hj => by have hj : j < 12 := hj; match j, hj with | 0, _ => rfl | 1, _ => rfl | 2, _ => rfl | 3, _ => rfl | 4, _ => rfl | 5, _ => rfl | 6, _ => rfl | 7, _ => rfl | 8, _ => rfl | 9, _ => rfl | 10, _ => rfl | 11, _ => rfl) (by omega) (by omega) (fun τ9 hz1 hk c84 => ?_)
  replace c0 := (hk b (by omega)).trans c0
  replace c1 := c1.keep (fun q h1 h2 => hk q (by omega))
  replace c62 := (hk (b + 62) (by omega)).trans c62
  replace c63 := c63.keep (fun q h1 h2 => hk q (by omega))
  replace kp : ∀ q, q < b → τ9.2 q = σ.2 q := fun q h => (hk q (by omega)).trans (kp q h)
  replace hz : τ9.1 = b + 85 := hz1
  clear hk hz1
  refine Ev.dup rfl rfl ?_
  refine Ev.mkIN rfl rfl rfl rfl ⟨by omega, by omega⟩ (School_init_ok hz c84) (fun τ10 hz1 hk c84 => ?_)
  replace c0 := (hk b (by omega)).trans c0
  replace c1 := c1.keep (fun q h1 h2 => hk q (by omega))
  replace c62 := (hk (b + 62) (by omega)).trans c62
  replace c63 := c63.keep (fun q h1 h2 => hk q (by omega))
  replace kp : ∀ q, q < b → τ10.2 q = σ.2 q := fun q h => (hk q (by omega)).trans (kp q h)
  replace hz : τ10.1 = b + 95 := hz1
  clear hk hz1
  refine Ev.putFE rfl rfl c0 rfl rfl rfl rfl rfl (Nat.le_of_ble_eq_true rfl) (fun τ11 f1 q1 => ?_)
  replace c1 := c1.frm f1 (by omega)
  replace c62 := f1.cell c62 (by omega)
  replace c63 := c63.keep (fun q h1 h2 => f1.2 q (by omega))
  replace c84 := c84.frm f1 (by omega)
  replace hz : τ11.1 = b + 95 := f1.1.trans hz
  replace kp : ∀ q, q < b → τ11.2 q = σ.2 q := fun q h => (f1.2 q (by omega)).trans (kp q h)
  replace c0 : τ11.2 b = some (.inr (.inr (0, [.ref (b + 1), .ref (b + 62), .ref (b + 63), .ref (b + 84), .null, .null, .null, .null, .null, .null, .null]))) := q1
  clear f1 q1
  refine Ev.aload_n rfl rfl ?_
  refine Ev.newcE (nf := 6) (fs := [.int 0, .int 0, .int 0, .int 0, .int 0, .int 0]) hz rfl rfl rfl rfl (fun j hj => by have hj : j < 6 := hj; match j, hj with | 0, _ => rfl | 1, _ => rfl | 2, _ => rfl | 3, _ => rfl | 4, _ => rfl | 5, _ => rfl) (by omega) (by omega) (fun τ12 hz1 hk c95 => ?_)
  replace c0 := (hk b (by omega)).trans c0
  replace c1 := c1.keep (fun q h1 h2 => hk q (by omega))
  replace c62 := (hk (b + 62) (by omega)).trans c62
  replace c63 := c63.keep (fun q h1 h2 => hk q (by omega))
  replace c84 := c84.keep (fun q h1 h2 => hk q (by omega))
  replace kp : ∀ q, q < b → τ12.2 q = σ.2 q := fun q h => (hk q (by omega)).trans (kp q h)
  replace hz : τ12.1 = b + 96 := hz1
  clear hk hz1
  refine Ev.dup rfl rfl ?_
  refine Ev.mkIN rfl rfl rfl rfl ⟨by omega, by omega⟩ (Lesson_init_ok hz c95) (fun τ13 hz1 hk c95 => ?_)
  replace c0 := (hk b (by omega)).trans c0
  replace c1 := c1.keep (fun q h1 h2 => hk q (by omega))
  replace c62 := (hk (b + 62) (by omega)).trans c62
  replace c63 := c63.keep (fun q h1 h2 => hk q (by omega))
  replace c84 := c84.keep (fun q h1 h2 => hk q (by omega))
  replace kp : ∀ q, q < b → τ13.2 q = σ.2 q := fun q h => (hk q (by omega)).trans (kp q h)
  replace hz : τ13.1 = b + 96 := hz1
  clear hk hz1
  refine Ev.putFE rfl rfl c0 rfl rfl rfl rfl rfl (Nat.le_of_ble_eq_true rfl) (fun τ14 f1 q1 => ?_)
  replace c1 := c1.frm f1 (by omega)
  replace c62 := f1.cell c62 (by omega)
  replace c63 := c63.keep (fun q h1 h2 => f1.2 q (by omega))
  replace c84 := c84.frm f1 (by omega)
  replace c95 := c95.frm f1 (by omega)
  replace hz : τ14.1 = b + 96 := f1.1.trans hz
  replace kp : ∀ q, q < b → τ14.2 q = σ.2 q := fun q h => (f1.2 q (by omega)).trans (kp q h)
  replace c0 : τ14.2 b = some (.inr (.inr (0, [.ref (b + 1), .ref (b + 62), .ref (b + 63), .ref (b + 84), .ref (b + 95), .null, .null, .null, .null, .null, .null]))) := q1
  clear f1 q1
  refine Ev.aload_n rfl rfl ?_
  refine Ev.newcE (nf := 10) (fs := [.null, .null, .null, .null, .null, .null, .null, .int 0, .int 0, .int 0]) hz rfl rfl rfl rfl (fun j hj => by have hj : j < 10 := hj; match j, hj with | 0, _ => rfl | 1, _ => rfl | 2, _ => rfl | 3, _ => rfl | 4, _ => rfl | 5, _ => rfl | 6, _ => rfl | 7, _ => rfl | 8, _ => rfl | 9, _ => rfl) (by omega) (by omega) (fun τ15 hz1 hk c96 => ?_)
  replace c0 := (hk b (by omega)).trans c0
  replace c1 := c1.keep (fun q h1 h2 => hk q (by omega))
  replace c62 := (hk (b + 62) (by omega)).trans c62
  replace c63 := c63.keep (fun q h1 h2 => hk q (by omega))
  replace c84 := c84.keep (fun q h1 h2 => hk q (by omega))
  replace c95 := c95.keep (fun q h1 h2 => hk q (by omega))
  replace kp : ∀ q, q < b → τ15.2 q = σ.2 q := fun q h => (hk q (by omega)).trans (kp q h)
  replace hz : τ15.1 = b + 97 := hz1
  clear hk hz1
  refine Ev.dup rfl rfl ?_
  refine Ev.mkIN rfl rfl rfl rfl ⟨by omega, by omega⟩ (Line_init_ok hz c96) (fun τ16 hz1 hk c96 => ?_)
  replace c0 := (hk b (by omega)).trans c0
  replace c1 := c1.keep (fun q h1 h2 => hk q (by omega))
  replace c62 := (hk (b + 62) (by omega)).trans c62
  replace c63 := c63.keep (fun q h1 h2 => hk q (by omega))
  replace c84 := c84.keep (fun q h1 h2 => hk q (by omega))
  replace c95 := c95.keep (fun q h1 h2 => hk q (by omega))
  replace kp : ∀ q, q < b → τ16.2 q = σ.2 q := fun q h => (hk q (by omega)).trans (kp q h)
  replace hz : τ16.1 = b + 104 := hz1
  clear hk hz1
  refine Ev.putFE rfl rfl c0 rfl rfl rfl rfl rfl (Nat.le_of_ble_eq_true rfl) (fun τ17 f1 q1 => ?_)
  replace c1 := c1.frm f1 (by omega)
  replace c62 := f1.cell c62 (by omega)
  replace c63 := c63.keep (fun q h1 h2 => f1.2 q (by omega))
  replace c84 := c84.frm f1 (by omega)
  replace c95 := c95.frm f1 (by omega)
  replace c96 := c96.keep (fun q h1 h2 => f1.2 q (by omega))
  replace hz : τ17.1 = b + 104 := f1.1.trans hz
  replace kp : ∀ q, q < b → τ17.2 q = σ.2 q := fun q h => (f1.2 q (by omega)).trans (kp q h)
  replace c0 : τ17.2 b = some (.inr (.inr (0, [.ref (b + 1), .ref (b + 62), .ref (b + 63), .ref (b + 84), .ref (b + 95), .ref (b + 96), .null, .null, .null, .null, .null]))) := q1
  clear f1 q1
  refine Ev.aload_n rfl rfl ?_
  refine Ev.newcE (nf := 4) (fs := [.null, .int 0, .null, .null]) hz rfl rfl rfl rfl (fun j hj => by have hj : j < 4 := hj; match j, hj with | 0, _ => rfl | 1, _ => rfl | 2, _ => rfl | 3, _ => rfl) (by omega) (by omega) (fun τ18 hz1 hk c104 => ?_)
  replace c0 := (hk b (by omega)).trans c0
  replace c1 := c1.keep (fun q h1 h2 => hk q (by omega))
  replace c62 := (hk (b + 62) (by omega)).trans c62
  replace c63 := c63.keep (fun q h1 h2 => hk q (by omega))
  replace c84 := c84.keep (fun q h1 h2 => hk q (by omega))
  replace c95 := c95.keep (fun q h1 h2 => hk q (by omega))
  replace c96 := c96.keep (fun q h1 h2 => hk q (by omega))
  replace kp : ∀ q, q < b → τ18.2 q = σ.2 q := fun q h => (hk q (by omega)).trans (kp q h)
  replace hz : τ18.1 = b + 105 := hz1
  clear hk hz1
  refine Ev.dup rfl rfl ?_
  refine Ev.mkIN rfl rfl rfl rfl ⟨by omega, by omega⟩ (Sharing_init_ok hz c104) (fun τ19 hz1 hk c104 => ?_)
  replace c0 := (hk b (by omega)).trans c0
  replace c1 := c1.keep (fun q h1 h2 => hk q (by omega))
  replace c62 := (hk (b + 62) (by omega)).trans c62
  replace c63 := c63.keep (fun q h1 h2 => hk q (by omega))
  replace c84 := c84.keep (fun q h1 h2 => hk q (by omega))
  replace c95 := c95.keep (fun q h1 h2 => hk q (by omega))
  replace c96 := c96.keep (fun q h1 h2 => hk q (by omega))
  replace kp : ∀ q, q < b → τ19.2 q = σ.2 q := fun q h => (hk q (by omega)).trans (kp q h)
  replace hz : τ19.1 = b + 108 := hz1
  clear hk hz1
  refine Ev.putFE rfl rfl c0 rfl rfl rfl rfl rfl (Nat.le_of_ble_eq_true rfl) (fun τ20 f1 q1 => ?_)
  replace c1 := c1.frm f1 (by omega)
  replace c62 := f1.cell c62 (by omega)
  replace c63 := c63.keep (fun q h1 h2 => f1.2 q (by omega))
  replace c84 := c84.frm f1 (by omega)
  replace c95 := c95.frm f1 (by omega)
  replace c96 := c96.keep (fun q h1 h2 => f1.2 q (by omega))
  replace c104 := c104.keep (fun q h1 h2 => f1.2 q (by omega))
  replace hz : τ20.1 = b + 108 := f1.1.trans hz
  replace kp : ∀ q, q < b → τ20.2 q = σ.2 q := fun q h => (f1.2 q (by omega)).trans (kp q h)
  replace c0 : τ20.2 b = some (.inr (.inr (0, [.ref (b + 1), .ref (b + 62), .ref (b + 63), .ref (b + 84), .ref (b + 95), .ref (b + 96), .ref (b + 104), .null, .null, .null, .null]))) := q1
  clear f1 q1
  refine Ev.aload_n rfl rfl ?_
  refine Ev.newcE (nf := 5) (fs := [.null, .null, .null, .null, .int 0]) hz rfl rfl rfl rfl (fun j hj => by have hj : j < 5 := hj; match j, hj with | 0, _ => rfl | 1, _ => rfl | 2, _ => rfl | 3, _ => rfl | 4, _ => rfl) (by omega) (by omega) (fun τ21 hz1 hk c108 => ?_)
  replace c0 := (hk b (by omega)).trans c0
  replace c1 := c1.keep (fun q h1 h2 => hk q (by omega))
  replace c62 := (hk (b + 62) (by omega)).trans c62
  replace c63 := c63.keep (fun q h1 h2 => hk q (by omega))
  replace c84 := c84.keep (fun q h1 h2 => hk q (by omega))
  replace c95 := c95.keep (fun q h1 h2 => hk q (by omega))
  replace c96 := c96.keep (fun q h1 h2 => hk q (by omega))
  replace c104 := c104.keep (fun q h1 h2 => hk q (by omega))
  replace kp : ∀ q, q < b → τ21.2 q = σ.2 q := fun q h => (hk q (by omega)).trans (kp q h)
  replace hz : τ21.1 = b + 109 := hz1
  clear hk hz1
  refine Ev.dup rfl rfl ?_
  refine Ev.mkIN rfl rfl rfl rfl ⟨by omega, by omega⟩ (Benches_init_ok hz c108) (fun τ22 hz1 hk c108 => ?_)
  replace c0 := (hk b (by omega)).trans c0
  replace c1 := c1.keep (fun q h1 h2 => hk q (by omega))
  replace c62 := (hk (b + 62) (by omega)).trans c62
  replace c63 := c63.keep (fun q h1 h2 => hk q (by omega))
  replace c84 := c84.keep (fun q h1 h2 => hk q (by omega))
  replace c95 := c95.keep (fun q h1 h2 => hk q (by omega))
  replace c96 := c96.keep (fun q h1 h2 => hk q (by omega))
  replace c104 := c104.keep (fun q h1 h2 => hk q (by omega))
  replace kp : ∀ q, q < b → τ22.2 q = σ.2 q := fun q h => (hk q (by omega)).trans (kp q h)
  replace hz : τ22.1 = b + 112 := hz1
  clear hk hz1
  refine Ev.putFE rfl rfl c0 rfl rfl rfl rfl rfl (Nat.le_of_ble_eq_true rfl) (fun τ23 f1 q1 => ?_)
  replace c1 := c1.frm f1 (by omega)
  replace c62 := f1.cell c62 (by omega)
  replace c63 := c63.keep (fun q h1 h2 => f1.2 q (by omega))
  replace c84 := c84.frm f1 (by omega)
  replace c95 := c95.frm f1 (by omega)
  replace c96 := c96.keep (fun q h1 h2 => f1.2 q (by omega))
  replace c104 := c104.keep (fun q h1 h2 => f1.2 q (by omega))
  replace c108 := c108.keep (fun q h1 h2 => f1.2 q (by omega))
  replace hz : τ23.1 = b + 112 := f1.1.trans hz
  replace kp : ∀ q, q < b → τ23.2 q = σ.2 q := fun q h => (f1.2 q (by omega)).trans (kp q h)
  replace c0 : τ23.2 b = some (.inr (.inr (0, [.ref (b + 1), .ref (b + 62), .ref (b + 63), .ref (b + 84), .ref (b + 95), .ref (b + 96), .ref (b + 104), .ref (b + 108), .null, .null, .null]))) := q1
  clear f1 q1
  refine Ev.aload_n rfl rfl ?_
  refine Ev.newcE (nf := 3) (fs := [.int 0, .null, .null]) hz rfl rfl rfl rfl (fun j hj => by have hj : j < 3 := hj; match j, hj with | 0, _ => rfl | 1, _ => rfl | 2, _ => rfl) (by omega) (by omega) (fun τ24 hz1 hk c112 => ?_)
  replace c0 := (hk b (by omega)).trans c0
  replace c1 := c1.keep (fun q h1 h2 => hk q (by omega))
  replace c62 := (hk (b + 62) (by omega)).trans c62
  replace c63 := c63.keep (fun q h1 h2 => hk q (by omega))
  replace c84 := c84.keep (fun q h1 h2 => hk q (by omega))
  replace c95 := c95.keep (fun q h1 h2 => hk q (by omega))
  replace c96 := c96.keep (fun q h1 h2 => hk q (by omega))
  replace c104 := c104.keep (fun q h1 h2 => hk q (by omega))
  replace c108 := c108.keep (fun q h1 h2 => hk q (by omega))
  replace kp : ∀ q, q < b → τ24.2 q = σ.2 q := fun q h => (hk q (by omega)).trans (kp q h)
  replace hz : τ24.1 = b + 113 := hz1
  clear hk hz1
  refine Ev.dup rfl rfl ?_
  refine Ev.mkIN rfl rfl rfl rfl ⟨by omega, by omega⟩ (Term_init_ok hz c112) (fun τ25 hz1 hk c112 => ?_)
  replace c0 := (hk b (by omega)).trans c0
  replace c1 := c1.keep (fun q h1 h2 => hk q (by omega))
  replace c62 := (hk (b + 62) (by omega)).trans c62
  replace c63 := c63.keep (fun q h1 h2 => hk q (by omega))
  replace c84 := c84.keep (fun q h1 h2 => hk q (by omega))
  replace c95 := c95.keep (fun q h1 h2 => hk q (by omega))
  replace c96 := c96.keep (fun q h1 h2 => hk q (by omega))
  replace c104 := c104.keep (fun q h1 h2 => hk q (by omega))
  replace c108 := c108.keep (fun q h1 h2 => hk q (by omega))
  replace kp : ∀ q, q < b → τ25.2 q = σ.2 q := fun q h => (hk q (by omega)).trans (kp q h)
  replace hz : τ25.1 = b + 115 := hz1
  clear hk hz1
  refine Ev.putFE rfl rfl c0 rfl rfl rfl rfl rfl (Nat.le_of_ble_eq_true rfl) (fun τ26 f1 q1 => ?_)
  replace c1 := c1.frm f1 (by omega)
  replace c62 := f1.cell c62 (by omega)
  replace c63 := c63.keep (fun q h1 h2 => f1.2 q (by omega))
  replace c84 := c84.frm f1 (by omega)
  replace c95 := c95.frm f1 (by omega)
  replace c96 := c96.keep (fun q h1 h2 => f1.2 q (by omega))
  replace c104 := c104.keep (fun q h1 h2 => f1.2 q (by omega))
  replace c108 := c108.keep (fun q h1 h2 => f1.2 q (by omega))
  replace c112 := c112.keep (fun q h1 h2 => f1.2 q (by omega))
  replace hz : τ26.1 = b + 115 := f1.1.trans hz
  replace kp : ∀ q, q < b → τ26.2 q = σ.2 q := fun q h => (f1.2 q (by omega)).trans (kp q h)
  replace c0 : τ26.2 b = some (.inr (.inr (0, [.ref (b + 1), .ref (b + 62), .ref (b + 63), .ref (b + 84), .ref (b + 95), .ref (b + 96), .ref (b + 104), .ref (b + 108), .ref (b + 112), .null, .null]))) := q1
  clear f1 q1
  refine Ev.aload_n rfl rfl ?_
  refine Ev.iconst (v := 3) rfl (by decide) ?_
  refine Ev.newaE (t := 0) (N := 3) hz rfl rfl rfl rfl rfl pa_0 (by decide) (by decide) (by decide) (by omega) (by omega) (fun τ27 hz1 hk c115 => ?_)
  replace c0 := (hk b (by omega)).trans c0
  replace c1 := c1.keep (fun q h1 h2 => hk q (by omega))
  replace c62 := (hk (b + 62) (by omega)).trans c62
  replace c63 := c63.keep (fun q h1 h2 => hk q (by omega))
  replace c84 := c84.keep (fun q h1 h2 => hk q (by omega))
  replace c95 := c95.keep (fun q h1 h2 => hk q (by omega))
  replace c96 := c96.keep (fun q h1 h2 => hk q (by omega))
  replace c104 := c104.keep (fun q h1 h2 => hk q (by omega))
  replace c108 := c108.keep (fun q h1 h2 => hk q (by omega))
  replace c112 := c112.keep (fun q h1 h2 => hk q (by omega))
  replace kp : ∀ q, q < b → τ27.2 q = σ.2 q := fun q h => (hk q (by omega)).trans (kp q h)
  replace hz : τ27.1 = b + 116 := hz1
  clear hk hz1
  refine Ev.putFE rfl rfl c0 rfl rfl rfl rfl rfl (Nat.le_of_ble_eq_true rfl) (fun τ28 f1 q1 => ?_)
  replace c1 := c1.frm f1 (by omega)
  replace c62 := f1.cell c62 (by omega)
  replace c63 := c63.keep (fun q h1 h2 => f1.2 q (by omega))
  replace c84 := c84.frm f1 (by omega)
  replace c95 := c95.frm f1 (by omega)
  replace c96 := c96.keep (fun q h1 h2 => f1.2 q (by omega))
  replace c104 := c104.keep (fun q h1 h2 => f1.2 q (by omega))
  replace c108 := c108.keep (fun q h1 h2 => f1.2 q (by omega))
  replace c112 := c112.keep (fun q h1 h2 => f1.2 q (by omega))
  replace c115 := f1.cell c115 (by omega)
  replace hz : τ28.1 = b + 116 := f1.1.trans hz
  replace kp : ∀ q, q < b → τ28.2 q = σ.2 q := fun q h => (f1.2 q (by omega)).trans (kp q h)
  replace c0 : τ28.2 b = some (.inr (.inr (0, [.ref (b + 1), .ref (b + 62), .ref (b + 63), .ref (b + 84), .ref (b + 95), .ref (b + 96), .ref (b + 104), .ref (b + 108), .ref (b + 112), .ref (b + 115), .null]))) := q1
  clear f1 q1
  refine Ev.aload_n rfl rfl ?_
  refine Ev.bipush (v := 16) rfl (by decide) ?_
  refine Ev.newaE (t := 0) (N := 16) hz rfl rfl rfl rfl rfl pa_0 (by decide) (by decide) (by decide) (by omega) (by omega) (fun τ29 hz1 hk c116 => ?_)
  replace c0 := (hk b (by omega)).trans c0
  replace c1 := c1.keep (fun q h1 h2 => hk q (by omega))
  replace c62 := (hk (b + 62) (by omega)).trans c62
  replace c63 := c63.keep (fun q h1 h2 => hk q (by omega))
  replace c84 := c84.keep (fun q h1 h2 => hk q (by omega))
  replace c95 := c95.keep (fun q h1 h2 => hk q (by omega))
  replace c96 := c96.keep (fun q h1 h2 => hk q (by omega))
  replace c104 := c104.keep (fun q h1 h2 => hk q (by omega))
  replace c108 := c108.keep (fun q h1 h2 => hk q (by omega))
  replace c112 := c112.keep (fun q h1 h2 => hk q (by omega))
  replace c115 := (hk (b + 115) (by omega)).trans c115
  replace kp : ∀ q, q < b → τ29.2 q = σ.2 q := fun q h => (hk q (by omega)).trans (kp q h)
  replace hz : τ29.1 = b + 117 := hz1
  clear hk hz1
  refine Ev.putFE rfl rfl c0 rfl rfl rfl rfl rfl (Nat.le_of_ble_eq_true rfl) (fun τ30 f1 q1 => ?_)
  replace c1 := c1.frm f1 (by omega)
  replace c62 := f1.cell c62 (by omega)
  replace c63 := c63.keep (fun q h1 h2 => f1.2 q (by omega))
  replace c84 := c84.frm f1 (by omega)
  replace c95 := c95.frm f1 (by omega)
  replace c96 := c96.keep (fun q h1 h2 => f1.2 q (by omega))
  replace c104 := c104.keep (fun q h1 h2 => f1.2 q (by omega))
  replace c108 := c108.keep (fun q h1 h2 => f1.2 q (by omega))
  replace c112 := c112.keep (fun q h1 h2 => f1.2 q (by omega))
  replace c115 := f1.cell c115 (by omega)
  replace c116 := f1.cell c116 (by omega)
  replace hz : τ30.1 = b + 117 := f1.1.trans hz
  replace kp : ∀ q, q < b → τ30.2 q = σ.2 q := fun q h => (f1.2 q (by omega)).trans (kp q h)
  replace c0 : τ30.2 b = some (.inr (.inr (0, [.ref (b + 1), .ref (b + 62), .ref (b + 63), .ref (b + 84), .ref (b + 95), .ref (b + 96), .ref (b + 104), .ref (b + 108), .ref (b + 112), .ref (b + 115), .ref (b + 116)]))) := q1
  clear f1 q1
  refine Ev.ret rfl rfl (by omega) (by omega) ?_
  rw [← hQ]
  exact ⟨rfl, hz, kp, ⟨c0, c1, c62, c63, c84, c95, c96, c104, c108, c112, c115, c116⟩⟩
end
end
