/-! The law from its first row. -/
noncomputable section
section
variable {Γ : ex_G} {b L x : Nat} {xs : Nat → Int32} {Q : Option Value → ex_S → Prop}
theorem law_begin (hA : (b, 0, L, xs) ∈ gA Γ) (hL : L ≤ 3072) (hq2 : (∀ (k cells slots : Nat) (σ : ex_S) (T : Tol) (I : Nat → Option Tol), 6 * k + 6 ≤ L → cells + 70 ≤ 600000 → slots + 4300 ≤ 7302250 → Inv σ x T I → (∀ (τ : ex_S) (T1 : Tol) (I1 : Nat → Option Tol) (mc ms : Nat), mc ≤ 70 → ms ≤ 4300 → Inv τ x T1 I1 → Ev Γ 600000 7302250 m_Law_law (cells + mc) (slots + ms) 2095 [some (.ref b), some (.ref x), some (.ref (x + 117)), some (.int (nI (6 * k)))] [] τ Q) → Ev Γ 600000 7302250 m_Law_law cells slots 314 [some (.ref b), some (.ref x), some (.ref (x + 117)), some (.int (nI (6 * k)))] [] σ Q)) (hq24 : (∀ (k cells slots : Nat) (σ : ex_S) (T : Tol) (I : Nat → Option Tol), 6 * k + 6 ≤ L → cells + 70 ≤ 600000 → slots + 4300 ≤ 7302250 → Inv σ x T I → (∀ (τ : ex_S) (T1 : Tol) (I1 : Nat → Option Tol) (mc ms : Nat), mc ≤ 70 → ms ≤ 4300 → Inv τ x T1 I1 → Ev Γ 600000 7302250 m_Law_law (cells + mc) (slots + ms) 2095 [some (.ref b), some (.ref x), some (.ref (x + 117)), some (.int (nI (6 * k)))] [] τ Q) → Ev Γ 600000 7302250 m_Law_law cells slots 1222 [some (.ref b), some (.ref x), some (.ref (x + 117)), some (.int (nI (6 * k)))] [] σ Q)) (hQ1 : ∀ τ, Q (some (.int 1)) τ) {σ : ex_S} (hz : σ.1 = x) : Ev Γ 600000 7302250 m_Law_law 0 0 0 [some (.ref b), none, none, none] [] σ Q := by
  refine Ev.newcE (nf := 11) (b := x) (fs := [.null, .null, .null, .null, .null, .null, .null, .null, .null, .null, .null]) hz rfl rfl rfl rfl (fun j hj => by have hj : j < 11 := hj; match j, hj with | 0, _ => rfl | 1, _ => rfl | 2, _ => rfl | 3, _ => rfl | 4, _ => rfl | 5, _ => rfl | 6, _ => rfl | 7, _ => rfl | 8, _ => rfl | 9, _ => rfl | 10, _ => rfl | n + 11, hj => exact absurd hj (by omega)) (by omega) (by omega) (fun τ1 z1 k1 o1 => ?_)
  refine Ev.dup rfl rfl ?_
  refine Ev.mkI rfl rfl rfl rfl ⟨by omega, by omega⟩ (SD_init_ok z1 o1) (fun τ2 z2 k2 s2 => ?_)
  refine Ev.astore_n rfl rfl rfl ?_
  refine Ev.newcE (nf := 30) (b := x + 117) (fs := [.null, .null, .int 0, .int 0, .int 0, .int 0, .int 0, .int 0, .int 0, .int 0, .null, .int 0, .null, .null, .null, .null, .int 0, .null, .null, .null, .int 0, .int 0, .null, .int 0, .null, .null, .null, .int 0, .null, .null]) z2 rfl rfl rfl rfl (fun j hj => by have hj : j < 30 := hj; match j, hj with | 0, _ => rfl | 1, _ => rfl | 2, _ => rfl | 3, _ => rfl | 4, _ => rfl | 5, _ => rfl | 6, _ => rfl | 7, _ => rfl | 8, _ => rfl | 9, _ => rfl | 10, _ => rfl | 11, _ => rfl | 12, _ => rfl | 13, _ => rfl | 14, _ => rfl | 15, _ => rfl | 16, _ => rfl | 17, _ => rfl | 18, _ => rfl | 19, _ => rfl | 20, _ => rfl | 21, _ => rfl | 22, _ => rfl | 23, _ => rfl | 24, _ => rfl | 25, _ => rfl | 26, _ => rfl | 27, _ => rfl | 28, _ => rfl | 29, _ => rfl | n + 30, hj => exact absurd hj (by omega)) (by omega) (by omega) (fun τ3 z3 k3 o3 => ?_)
  refine Ev.dup rfl rfl ?_
  refine Ev.mkI rfl rfl rfl rfl ⟨by omega, by omega⟩ (M_init_ok z3 o3) (fun τ4 z4 k4 s4 => ?_)
  refine Ev.astore_n rfl rfl rfl ?_
  refine Ev.iconst (v := 0) rfl (by decide) ?_
  refine Ev.istore_n rfl rfl rfl ?_
  have kk : ∀ q, q < x + 117 → τ4.2 q = τ2.2 q := fun q h => (k4 q h).trans (k3 q h)
  obtain ⟨c0, c1, c2, c3, c4, c5, c6, c7, c8, c9, c10, c11⟩ := s2
  obtain ⟨m0, m1, b0, b1, b2, b3, b4, b5, b6, b7, b8, b9, b10, b11, b12, b13, b14⟩ := s4
  have hI := inv0 (x := x) (τ := τ4) (by omega) ⟨(kk x (by omega)).trans c0, c1.keep (fun q h1 h2 => kk q (by omega)), (kk _ (by omega)).trans c2, c3.keep (fun q h1 h2 => kk q (by omega)), c4.keep (fun q h1 h2 => kk q (by omega)), c5.keep (fun q h1 h2 => kk q (by omega)), c6.keep (fun q h1 h2 => kk q (by omega)), c7.keep (fun q h1 h2 => kk q (by omega)), c8.keep (fun q h1 h2 => kk q (by omega)), c9.keep (fun q h1 h2 => kk q (by omega)), (kk _ (by omega)).trans c10, (kk _ (by omega)).trans c11⟩ m0 m1 b0 b1 b2 b3 b4 b5 b6 b7 b8 b9 b10 b11 b12 b13 b14
  exact (law_loop hA hL hq2 hq24 hQ1 L 0 _ _ τ4 T0 _ (by omega) (by omega) (by omega) (by omega) hI).fg (gs rfl (gs rfl (gs rfl (gs (congrArg Value.int (show nI (6 * 0) = (0 : Int32) from rfl)) gz))))
end
end
