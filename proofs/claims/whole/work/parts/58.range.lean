/-! How great what is learnt may be. -/
noncomputable section
/-- a number from 0 to b -/
def sn (x : Int32) (b : Nat) : Prop := ∃ n : Nat, n ≤ b ∧ x = nI n
theorem sn.mono {x : Int32} {a b : Nat} (h : sn x a) (hb : a ≤ b) : sn x b := by
  obtain ⟨n, h1, h2⟩ := h
  exact ⟨n, by omega, h2⟩
theorem sn_nI {n b : Nat} (h : n ≤ b) : sn (nI n) b := ⟨n, h, rfl⟩
theorem sn_0 {b : Nat} : sn 0 b := ⟨0, Nat.zero_le _, rfl⟩
theorem sn_add {x y : Int32} {a b : Nat} (hx : sn x a) (hy : sn y b) : sn (x + y) (a + b) := by
  obtain ⟨n, h1, rfl⟩ := hx
  obtain ⟨m, h2, rfl⟩ := hy
  exact ⟨n + m, by omega, nI_add n m⟩
theorem sn_mul {x y : Int32} {a b : Nat} (hx : sn x a) (hy : sn y b) : sn (x * y) (a * b) := by
  obtain ⟨n, h1, rfl⟩ := hx
  obtain ⟨m, h2, rfl⟩ := hy
  exact ⟨n * m, Nat.mul_le_mul h1 h2, pk_mul n m⟩
theorem sn_div {x : Int32} {a d : Nat} (hx : sn x a) (ha : a < 2 ^ 31) (h0 : 0 < d) (hd : d < 2 ^ 31) : sn (x / nI d) (a / d) := by
  obtain ⟨n, h1, rfl⟩ := hx
  exact ⟨n / d, Nat.div_le_div_right h1, pk_div (by omega) h0 hd⟩
theorem sn.toInt {x : Int32} {a : Nat} (hx : sn x a) (ha : a < 2 ^ 31) : 0 ≤ x.toInt ∧ x.toInt ≤ a := by
  obtain ⟨n, h1, rfl⟩ := hx
  rw [nI_toInt (by omega)]
  omega
theorem sn_rg {x : Int32} {lo hi : Int} (h : rg x lo hi) (h0 : 0 ≤ lo) {b : Nat} (hb : hi ≤ b) : sn x b := by
  obtain ⟨n, e, h1, h2, -⟩ := h.nat h0
  exact ⟨n, by omega, e⟩
theorem sn.rg {x : Int32} {b : Nat} (h : sn x b) (hb : b < 2 ^ 31) : rg x 0 b := by
  obtain ⟨h1, h2⟩ := h.toInt hb
  exact ⟨h1, h2⟩
theorem sn_max {v : Int32} {b : Nat} (hb : b < 2 ^ 31) (h : v.toInt ≤ b) : sn (K_max 0 v) b := by
  unfold K_max
  have e0 : (0 : Int32).toInt = 0 := by decide
  split
  · rename_i c
    rw [lt_toInt, e0] at c
    obtain ⟨j, hj, rfl⟩ := nI_of (x := v) (by rw [lt_toInt, e0]; omega)
    rw [nI_toInt hj] at h
    exact ⟨j, by omega, rfl⟩
  · exact sn_0
theorem base_sn {S : Sch} (hw : wS S) (st own : Int32) : sn (K_base S st own) 99 := by
  unfold K_base
  split
  · exact sn_0
  · split
    · exact sn_0
    · rename_i h1 h2
      have h := in7 h1 h2
      obtain ⟨j, hj, e⟩ := vp_in_of h (by decide)
      rw [e, nI_clamp (by omega)]
      exact sn_rg (hw.2.2.2.2.1 j hj).1 (by decide) (by decide)
theorem two_nI : (2 : Int32) = nI 2 := rfl
theorem hun_nI : (100 : Int32) = nI 100 := rfl
theorem alone_sn {S : Sch} (hw : wS S) (C : Les) (own : Int32) : sn (K_alone S C own) 198 := by
  unfold K_alone
  split
  · rw [two_nI]
    exact (sn_div (sn_add (base_sn hw _ _) (base_sn hw _ _)) (by decide) (by decide) (by decide)).mono (by decide)
  · split
    · exact (base_sn hw _ _).mono (by decide)
    · split
      · rw [hun_nI]
        exact (sn_div (sn_mul (base_sn hw _ _) (sn_rg hw.2.2.2.2.2.2.2.2.2.2.2.2.2.2.2.2 (by decide) (b := 200) (by decide))) (by decide) (by decide) (by decide)).mono (by decide)
      · exact (base_sn hw _ _).mono (by decide)
theorem fit_sn {S : Sch} (hw : wS S) (C : Les) (own near : Int32) : sn (K_fitting S C own near) 297 := by
  unfold K_fitting
  refine (sn_add (alone_sn hw C own) (b := 99) ?_).mono (by decide)
  split
  · split
    · exact sn_0
    · exact sn_rg hw.2.2.2.2.2.2.2.2.2.2.2.2.2.2.2.1 (by decide) (by decide)
  · exact sn_0
theorem part_sn {S : Sch} (hw : wS S) {k : Int32} (hk : sn k 17) : sn (K_part S k) 100 := by
  unfold K_part
  refine sn_max (by decide) ?_
  have h1 : sn (K_max 0 (k - S.2.2 9 0)) 17 := by
    refine sn_max (by decide) ?_
    have e := sub_toInt (hk.rg (by decide)) hw.2.2.2.2.2.1 (by decide) (by decide) (by decide) (by decide)
    have a := (hk.toInt (by decide)).2
    have b := hw.2.2.2.2.2.1.1
    omega
  have h2 := sn_mul (sn_rg hw.2.2.2.2.2.2.1 (by decide) (b := 20) (by decide)) h1
  have e := sub_toInt (x := 100) (a := 0) (b := 100) (by unfold rg; decide) (h2.rg (by decide)) (by decide) (by decide) (by decide) (by decide)
  have a := (h2.toInt (by decide)).1
  have h100 : (100 : Int32).toInt = 100 := by decide
  rw [e, h100]
  omega
theorem by_sn {S : Sch} (hw : wS S) (C : Les) (own near : Int32) {k : Int32} (hk : sn k 17) : sn (K_fitting S C own near * K_part S k / 100) 297 := by
  rw [hun_nI]
  exact (sn_div (sn_mul (fit_sn hw C own near) (part_sn hw hk)) (by decide) (by decide) (by decide)).mono (by decide)
theorem fo_sn {F : Nat → Int32 → Int32} {d : Nat} : ∀ (k i : Nat) (x : Int32) (b : Nat), sn x b → (∀ j y, i ≤ j → j < i + k → ∀ c, sn y c → sn (F j y) (c + d)) → sn (fo F k i x) (b + k * d) := by
  intro k
  induction k with
  | zero => intro i x b h _; simpa [fo] using h
  | succ k ih =>
    intro i x b h hs
    rw [fo_succ]
    have := ih (i + 1) (F i x) (b + d) (hs i x (Nat.le_refl _) (by omega) b h) (fun j y h1 h2 => hs j y (by omega) (by omega))
    rw [show b + (k + 1) * d = b + d + k * d by rw [Nat.succ_mul]; omega]
    exact this
theorem bc_sn {w : Nat} (h : w < 131072) : sn (K_bc (nI w)) 17 := ⟨pop w, pop_le w, bc_nI h⟩
theorem tog_sn {S : Sch} (hw : wS S) (C : Les) {w : Nat} (h : w < 131072) : sn (K_tog S C (nI w)) 5049 := by
  unfold K_tog
  refine (fo_sn (d := 297) 17 0 0 0 sn_0 (fun j y _ _ c hy => ?_)).mono (by decide)
  unfold F_tog
  split
  · exact hy.mono (by omega)
  · exact sn_add hy (by_sn hw C _ _ (bc_sn h))
theorem tog_inS {S : Sch} (hw : wS S) (C : Les) {W : Int32} (h : inS S W) : sn (K_tog S C W) 5049 := by
  obtain ⟨w, h1, rfl⟩ := h
  have := p16 hw.1
  exact tog_sn hw C (by omega)
theorem sn_sub {x y : Int32} {a b : Nat} (hx : sn x a) (hy : sn y b) (ha : a < 1000000) (hb : b < 1000000) : rg (x - y) (-(b : Int)) a := by
  have e := sub_toInt (hx.rg (by omega)) (hy.rg (by omega)) (by omega) (by omega) (by omega) (by omega)
  have h1 := hx.toInt (by omega)
  have h2 := hy.toInt (by omega)
  unfold rg
  omega
end
