/-! The law's walk: what the claim gives of statics and texts is what the methods want. -/
noncomputable section
theorem narrow_ch {u : Nat} (h : u < 128) : narrow .char (.int (nI u)) = .int (nI u) := by
  have key : ∀ u, u < 128 → ((nI u).toUInt32 % 65536).toInt32 = nI u := by decide +kernel
  have := key u h
  simp only [narrow]
  first
  | rw [this]
  | exact congrArg Value.int this
theorem wtx_0 {Γ : ex_G} {b L : Nat} {xs : Nat → Int32} (h : stat Γ b L xs) : wtx Γ 0 90 (fun k => wdS.getD k 0) := by
  obtain ⟨-, -, -, -, -, h4, h5, h6, -⟩ := h
  have k1 : ∀ k, k < 90 → chr ((sv_byt.getD 0 []).getD k 0) = nI (wdS.getD k 0) ∧ wdS.getD k 0 < 128 := by decide +kernel
  have k2 : ∀ i, i < 90 → wdS.getD i 0 = 32 → wfi (fun k => wdS.getD k 0) i < i ∧ ∀ p, p < i → wfi (fun k => wdS.getD k 0) i ≤ p → 97 ≤ wdS.getD p 0 ∧ wdS.getD p 0 ≤ 122 := by decide +kernel
  refine ⟨h4, h5, by decide, ⟨_, rfl⟩, ⟨_, h6, fun k hk => ⟨(k1 k hk).1, ?_⟩⟩, fun k hk => (k1 k hk).2, fun i hi hb => ⟨(k2 i hi hb).1, fun p p1 p2 => (k2 i hi hb).2 p p2 p1⟩⟩
  rw [(k1 k hk).1]
  exact narrow_ch (k1 k hk).2
theorem wtx_1 {Γ : ex_G} {b L : Nat} {xs : Nat → Int32} (h : stat Γ b L xs) : wtx Γ 1 31 (fun k => wdP.getD k 0) := by
  obtain ⟨-, -, -, -, -, h4, h5, -, h6⟩ := h
  have k1 : ∀ k, k < 31 → chr ((sv_byt.getD 1 []).getD k 0) = nI (wdP.getD k 0) ∧ wdP.getD k 0 < 128 := by decide +kernel
  have k2 : ∀ i, i < 31 → wdP.getD i 0 = 32 → wfi (fun k => wdP.getD k 0) i < i ∧ ∀ p, p < i → wfi (fun k => wdP.getD k 0) i ≤ p → 97 ≤ wdP.getD p 0 ∧ wdP.getD p 0 ≤ 122 := by decide +kernel
  refine ⟨h4, h5, by decide, ⟨_, rfl⟩, ⟨_, h6, fun k hk => ⟨(k1 k hk).1, ?_⟩⟩, fun k hk => (k1 k hk).2, fun i hi hb => ⟨(k2 i hi hb).1, fun p p1 p2 => (k2 i hi hb).2 p p2 p1⟩⟩
  rw [(k1 k hk).1]
  exact narrow_ch (k1 k hk).2
theorem getD_nI {l : List Int32} {m : List Nat} (h : l = m.map nI) (j : Nat) : l.getD j 0 = nI (m.getD j 0) := by
  subst h
  rw [List.getD_eq_getElem?_getD, List.getD_eq_getElem?_getD, List.getElem?_map]
  cases m[j]? <;> rfl
theorem stat_rd {Γ : ex_G} {b L : Nat} {xs : Nat → Int32} (h : stat Γ b L xs) : rdst Γ := by
  obtain ⟨-, -, ⟨a1, e1, m1⟩, ⟨a2, e2, m2⟩, ⟨a3, e3, m3⟩, -⟩ := h
  have n1 : (fun j => sv_NU.getD j 0) = fun j => nI (NUl.getD j 0) := funext (getD_nI (by decide +kernel))
  have n2 : (fun j => sv_LO.getD j 0) = fun j => nI (LOl.getD j 0) := funext (getD_nI (by decide +kernel))
  have n3 : (fun j => sv_HI.getD j 0) = fun j => nI (HIl.getD j 0) := funext (getD_nI (by decide +kernel))
  rw [n1] at m1
  rw [n2] at m2
  rw [n3] at m3
  exact ⟨⟨a1, e1, m1⟩, ⟨a2, e2, m2⟩, a3, e3, m3⟩
theorem law_ev {b L : Nat} {xs : Nat → Int32} (hL : L ≤ 3072) : ∀ Γ : ex_G, stat Γ b L xs → Ev Γ 600000 7302250 m_Law_law 0 0 0 [some (.ref b), none, none, none] [] (gN Γ, fun _ => none) lawQ := by
  intro Γ hst
  have hRt := stat_rd hst
  have hFR : frst Γ := by
    obtain ⟨a, e, m⟩ := hst.2.1
    exact ⟨a, e, m⟩
  have hw0 := wtx_0 hst
  have hw1 := wtx_1 hst
  exact law_begin (x := gN Γ) hst.1 hL (fun k cells slots σ T I a c d h n => law_2 hRt hFR hw0 hw1 hst.1 hL a c d h n) (fun k cells slots σ T I a c d h n => law_24 hst.1 hL a c d h n) (fun _ => rfl) rfl
end
