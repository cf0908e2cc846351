/-! At the start the invariant holds. -/
noncomputable section
theorem mT0 : mT (upd (fun _ => 0) 4 (-1)) 0 T0 := by
  refine ⟨rfl, rfl, rfl, rfl, rfl, fun i hi => ?_, fun k hk => absurd hk (Nat.not_lt_zero k), fun k hk => absurd hk (Nat.not_lt_zero k)⟩
  rw [pk_un (by omega)]
  show (0 : Int32) = 0 &&& 255
  decide
theorem wT0 : wT T0 := ⟨Nat.zero_le _, Nat.zero_le _, Nat.zero_le _, fun k hk => absurd hk (Nat.not_lt_zero k), fun k hk => absurd hk (Nat.not_lt_zero k)⟩
theorem fitT0 : fitT T0 := fun i _ => ⟨by show (-128 : Int) ≤ (0 : Int32).toInt; decide, by show (0 : Int32).toInt ≤ 127; decide⟩
theorem inv0 {τ : ex_S} {x : Nat} (hs : x + 134 ≤ τ.1)
    (hC : isX τ x ∧ isT τ (x + 1) T0 ∧ τ.2 (x + 62) = some (.inr (.inl (6, 3, fun _ => none))) ∧ jR τ (x + 63) ∧ isS τ (x + 84) S0 ∧ isL τ (x + 95) L0 ∧ jN τ (x + 96) ∧ jH τ (x + 104) ∧ jB τ (x + 108) ∧ jE τ (x + 112) ∧ τ.2 (x + 115) = some (.inl (0, 3, fun _ => 0)) ∧ τ.2 (x + 116) = some (.inl (0, 16, fun _ => 0)))
    (m0 : τ.2 (x + 117) = some (.inr (.inr (10, mo (x + 117) (fun _ => 0))))) (m1 : τ.2 (x + 117 + 1) = some (.inl (0, 4500, upd (fun _ => 0) 4 (-1)))) (b0 : τ.2 (x + 117 + 2) = some (.inl (2, 3, fun _ => 0))) (b1 : τ.2 (x + 117 + 3) = some (.inl (0, 120, fun _ => 0))) (b2 : τ.2 (x + 117 + 4) = some (.inl (0, 16, fun _ => 0))) (b3 : τ.2 (x + 117 + 5) = some (.inl (0, 119, fun _ => 0))) (b4 : τ.2 (x + 117 + 6) = some (.inl (0, 119, fun _ => 0))) (b5 : τ.2 (x + 117 + 7) = some (.inl (0, 119, fun _ => 0))) (b6 : τ.2 (x + 117 + 8) = some (.inl (0, 6, fun _ => 0))) (b7 : τ.2 (x + 117 + 9) = some (.inl (0, 16, fun _ => 0))) (b8 : τ.2 (x + 117 + 10) = some (.inl (0, 16, fun _ => 0))) (b9 : τ.2 (x + 117 + 11) = some (.inl (0, 16, fun _ => 0))) (b10 : τ.2 (x + 117 + 12) = some (.inl (0, 16, fun _ => 0))) (b11 : τ.2 (x + 117 + 13) = some (.inl (0, 4096, fun _ => 0))) (b12 : τ.2 (x + 117 + 14) = some (.inl (0, 4096, fun _ => 0))) (b13 : τ.2 (x + 117 + 15) = some (.inl (0, 6, fun _ => 0))) (b14 : τ.2 (x + 117 + 16) = some (.inl (0, 6, fun _ => 0))) :
    Inv τ x T0 (fun _ => none) := by
  obtain ⟨c0, c1, c2, ⟨r0, r1, r2, r3⟩, c4, c5, ⟨n0, n1, n2, n3, n4, n5, n6, n7⟩, ⟨h0, h1, h2, h3⟩, ⟨e0, e1, e2, e3⟩, ⟨t0, t1, t2⟩, c10, c11⟩ := hC
  refine ⟨⟨c0, c1, ⟨fun _ => none, fun _ => none, ⟨c2, fun k _ => Or.inl ⟨rfl, rfl⟩, (fun j k a b _ _ _ q => nomatch q)⟩, ⟨0, _, _, _, e0, Nat.zero_le _, e1, e2, e3, (fun b q => nomatch q)⟩⟩, ⟨S0, P0, _, .null, _, _, _, _, _, _, _, _, r0, r1, r2, r3, Or.inl rfl⟩, ⟨S0, c4⟩, ⟨L0, c5⟩, ⟨0, 0, -1, 0, L0, _, _, _, _, _, _, n0, n1, n2, n3, n4, n5, n6, n7, rfl⟩, ⟨0, _, _, _, h0, h1, h2, h3⟩, ⟨_, _, _, t0, t1, t2⟩, ⟨_, c10⟩, ⟨_, c11⟩⟩, ⟨fun _ => 0, _, _, _, _, _, _, _, _, _, _, _, _, _, _, _, _, ⟨m0, m1⟩, mT0, (fun k U _ q => nomatch q), b0, b1, b2, b3, b4, b5, b6, b7, b8, b9, b10, b11, b12, b13, b14, fun k _ => (if_pos rfl).symm, rfl⟩, wT0, fitT0, (fun k U _ q => nomatch q), hs⟩
end
