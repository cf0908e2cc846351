/-! Bits of Int32. -/
noncomputable section
theorem sh_amt : ∀ i, i < 32 → ((nI i &&& 31).toBitVec.smod 32).toNat = i := by decide +kernel
theorem sh_toInt (w : Int32) {i : Nat} (hi : i < 32) : (w >>> (nI i &&& 31)).toInt = w.toInt >>> i := pk_shr w _ i (sh_amt i hi)
theorem sh_div (w : Int32) {i : Nat} (hi : i < 32) : (w >>> (nI i &&& 31)).toInt = w.toInt / (2 ^ i : Nat) := by
  rw [sh_toInt w hi, Int.shiftRight_eq_div_pow]
theorem and1_cases (x : Int32) : x &&& 1 = 0 ∨ x &&& 1 = 1 := by
  obtain ⟨j, hj, h⟩ := pk_andE x (m := 1) 1 (by decide)
  rw [h]
  match j, hj with
  | 0, _ => left; decide
  | 1, _ => right; decide
theorem bit_cases (w i : Int32) : K_bit w i = 0 ∨ K_bit w i = 1 := and1_cases _
theorem bit_ne0 {w i : Int32} : ¬ K_bit w i = 0 ↔ K_bit w i = 1 := by
  rcases bit_cases w i with h | h <;> rw [h] <;> decide
/-- a shift that is 0 leaves no bit from there on -/
theorem bit_none {w : Int32} {i j : Nat} (hj : j < 32) (hij : i ≤ j) (h : w >>> (nI i &&& 31) = 0) : K_bit w (nI j) = 0 := by
  have h1 := sh_div w (i := i) (by omega)
  rw [h] at h1
  have h0 : (0 : Int32).toInt = 0 := by decide
  rw [h0] at h1
  have hp : (0 : Int) < ((2 ^ i : Nat) : Int) := by exact_mod_cast Nat.two_pow_pos i
  have hlo : 0 ≤ w.toInt := by
    rcases Int.lt_or_le w.toInt 0 with q | q
    · have := Int.ediv_neg_of_neg_of_pos q hp
      omega
    · exact q
  have hhi : w.toInt < ((2 ^ i : Nat) : Int) := by
    rcases Int.lt_or_le w.toInt ((2 ^ i : Nat) : Int) with q | q
    · exact q
    · have h2 : 1 ≤ w.toInt / ((2 ^ i : Nat) : Int) := (Int.le_ediv_iff_mul_le hp).mpr (by omega)
      omega
  have h3 : w >>> (nI j &&& 31) = 0 := by
    apply Int32.toInt_inj.mp
    rw [sh_div w hj, h0]
    have : ((2 ^ i : Nat) : Int) ≤ ((2 ^ j : Nat) : Int) := by exact_mod_cast Nat.pow_le_pow_right (by decide) hij
    exact Int.ediv_eq_zero_of_lt hlo (by omega)
  unfold K_bit
  rw [h3]
  decide
theorem bit_nI {m j : Nat} (hm : m < 2 ^ 31) (hj : j < 32) : K_bit (nI m) (nI j) = nI (m / 2 ^ j % 2) := by
  unfold K_bit
  rw [pk_shrN hm _ j (sh_amt j hj), pk_andN (m := 1) (by have := Nat.div_le_self m (2 ^ j); omega) 1 (by decide)]
theorem bc_all : ∀ j, j < 32 → bcChk j = true := by
  intro j hj
  match j, hj with
  | 0, _ => exact bc_c0
  | 1, _ => exact bc_c1
  | 2, _ => exact bc_c2
  | 3, _ => exact bc_c3
  | 4, _ => exact bc_c4
  | 5, _ => exact bc_c5
  | 6, _ => exact bc_c6
  | 7, _ => exact bc_c7
  | 8, _ => exact bc_c8
  | 9, _ => exact bc_c9
  | 10, _ => exact bc_c10
  | 11, _ => exact bc_c11
  | 12, _ => exact bc_c12
  | 13, _ => exact bc_c13
  | 14, _ => exact bc_c14
  | 15, _ => exact bc_c15
  | 16, _ => exact bc_c16
  | 17, _ => exact bc_c17
  | 18, _ => exact bc_c18
  | 19, _ => exact bc_c19
  | 20, _ => exact bc_c20
  | 21, _ => exact bc_c21
  | 22, _ => exact bc_c22
  | 23, _ => exact bc_c23
  | 24, _ => exact bc_c24
  | 25, _ => exact bc_c25
  | 26, _ => exact bc_c26
  | 27, _ => exact bc_c27
  | 28, _ => exact bc_c28
  | 29, _ => exact bc_c29
  | 30, _ => exact bc_c30
  | 31, _ => exact bc_c31
  | n + 32, h => omega
theorem bc_step {m : Nat} (h : m < 65536) : bcN (2 * m) = bcN m ∧ bcN (2 * m + 1) = bcN m + 1 := by
  have h1 := bc_all (m / 2048) (by omega)
  unfold bcChk at h1
  rw [List.all_eq_true] at h1
  have h2 : bcOne (2048 * (m / 2048) + m % 2048) = true := h1 (m % 2048) (List.mem_range.mpr (by omega))
  rw [show 2048 * (m / 2048) + m % 2048 = m by omega] at h2
  unfold bcOne at h2
  rw [Bool.and_eq_true] at h2
  exact ⟨eq_of_beq h2.1, eq_of_beq h2.2⟩
theorem pop_step : ∀ (k i m x : Nat), fo (fun k x => x + (m / 2) / 2 ^ k % 2) k i x = fo (fun k x => x + m / 2 ^ k % 2) k (i + 1) x := by
  intro k
  induction k with
  | zero => intro i m x; rfl
  | succ k ih =>
    intro i m x
    rw [fo_succ, fo_succ, ih]
    congr 1
    rw [Nat.div_div_eq_div_mul, Nat.pow_succ, Nat.mul_comm]
theorem pop_half {m : Nat} (h : m < 131072) : pop m = pop (m / 2) + m % 2 := by
  have e : ∀ (k i x d : Nat), fo (fun k x => x + m / 2 ^ k % 2) k i (x + d) = fo (fun k x => x + m / 2 ^ k % 2) k i x + d := by
    intro k
    induction k with
    | zero => intro i x d; rfl
    | succ k ih =>
      intro i x d
      rw [fo_succ, fo_succ, show x + d + m / 2 ^ i % 2 = x + m / 2 ^ i % 2 + d by omega]
      exact ih (i + 1) _ d
  have h17 : m / 2 ^ 17 % 2 = 0 := by
    rw [Nat.div_eq_of_lt (by omega)]
  have r : pop (m / 2) = fo (fun k x => x + m / 2 ^ k % 2) 16 1 0 := by
    unfold pop
    rw [pop_step 17 0 m 0, show (17 : Nat) = 16 + 1 from rfl, fo_last]
    show _ + m / 2 ^ 17 % 2 = _
    rw [h17]
    rfl
  have l : pop m = fo (fun k x => x + m / 2 ^ k % 2) 16 1 (0 + m % 2) := by
    unfold pop
    rw [show (17 : Nat) = 16 + 1 from rfl, fo_succ]
    show fo _ 16 1 (0 + m / 1 % 2) = _
    rw [Nat.div_one]
  rw [l, r, e]
theorem bcN_pop : ∀ (f m : Nat), m < f → m < 131072 → bcN m = pop m := by
  intro f
  induction f with
  | zero => intro m h; omega
  | succ f ih =>
    intro m hf h
    by_cases h0 : m = 0
    · subst h0
      decide +kernel
    · have hs := bc_step (m := m / 2) (by omega)
      have hi := ih (m / 2) (by omega) (by omega)
      rw [pop_half h, ← hi]
      rcases Nat.mod_two_eq_zero_or_one m with q | q
      · rw [q, ← hs.1, show 2 * (m / 2) = m by omega]
        rfl
      · rw [q, ← hs.2, show 2 * (m / 2) + 1 = m by omega]
theorem ush_amt : ∀ i, i < 32 → (((nI i).toUInt32 &&& Int32.toUInt32 31).toBitVec % 32).toNat = i := by decide +kernel
theorem ush_nI {m i : Nat} (hm : m < 2 ^ 32) (hi : i < 32) : ((nI m).toUInt32 >>> ((nI i).toUInt32 &&& Int32.toUInt32 31)).toInt32 = nI (m >>> i) := by
  rw [pk_ushrN hm _ i (ush_amt i hi), Nat.shiftRight_eq_div_pow]
theorem and_nI {a b : Nat} (ha : a < 2 ^ 32) (hb : b < 2 ^ 32) : nI a &&& nI b = nI (a &&& b) := by
  apply Int32.toBitVec_inj.mp
  apply BitVec.eq_of_toNat_eq
  rw [Int32.toBitVec_and, BitVec.toNat_and, pk_tn ha, pk_tn hb, pk_tn (Nat.lt_of_le_of_lt Nat.and_le_left ha)]
theorem or_nI {a b : Nat} (ha : a < 2 ^ 32) (hb : b < 2 ^ 32) : nI a ||| nI b = nI (a ||| b) := by
  apply Int32.toBitVec_inj.mp
  apply BitVec.eq_of_toNat_eq
  rw [Int32.toBitVec_or, BitVec.toNat_or, pk_tn ha, pk_tn hb, pk_tn (Nat.or_lt_two_pow ha hb)]
theorem bc_nI {m : Nat} (h : m < 131072) : K_bc (nI m) = nI (pop m) := by
  rw [← bcN_pop 131072 m h h]
  have ha : m - ((m >>> 1) &&& 1431655765) < 2 ^ 17 := by have := Nat.sub_le m ((m >>> 1) &&& 1431655765); omega
  have hle : (m >>> 1) &&& 1431655765 ≤ m := Nat.le_trans Nat.and_le_left (by rw [Nat.shiftRight_eq_div_pow]; exact Nat.div_le_self _ _)
  unfold K_bc bcN
  dsimp only
  have e1 : (1 : Int32) = nI 1 := by decide
  have e2 : (2 : Int32) = nI 2 := by decide
  have e4 : (4 : Int32) = nI 4 := by decide
  have e8 : (8 : Int32) = nI 8 := by decide
  have e16 : (16 : Int32) = nI 16 := by decide
  have e63 : (63 : Int32) = nI 63 := by decide
  have k1 : (1431655765 : Int32) = nI 1431655765 := by decide
  have k2 : (858993459 : Int32) = nI 858993459 := by decide
  have k3 : (252645135 : Int32) = nI 252645135 := by decide
  have sh : ∀ x i : Nat, x >>> i ≤ x := fun x i => by rw [Nat.shiftRight_eq_div_pow]; exact Nat.div_le_self _ _
  rw [e1, e2, e4, e8, e16, e63, k1, k2, k3, ush_nI (by omega) (by decide), and_nI (by have := sh m 1; omega) (by decide), pk_sub hle]
  generalize m - ((m >>> 1) &&& 1431655765) = a at ha ⊢
  have hb : (a &&& 858993459) + ((a >>> 2) &&& 858993459) < 2 ^ 18 := by
    have h1 : a &&& 858993459 ≤ a := Nat.and_le_left
    have h2 : (a >>> 2) &&& 858993459 ≤ a >>> 2 := Nat.and_le_left
    have h3 := sh a 2
    omega
  rw [ush_nI (by omega) (by decide), and_nI (by omega) (by decide), and_nI (by have := sh a 2; omega) (by decide), nI_add]
  generalize (a &&& 858993459) + ((a >>> 2) &&& 858993459) = b at hb ⊢
  rw [ush_nI (by omega) (by decide), nI_add, and_nI (by have := sh b 4; omega) (by decide)]
  have hc : (b + b >>> 4) &&& 252645135 < 2 ^ 19 := Nat.lt_of_le_of_lt Nat.and_le_left (by have := sh b 4; omega)
  generalize (b + b >>> 4) &&& 252645135 = c at hc ⊢
  rw [ush_nI (by omega) (by decide), nI_add]
  have hd : c + c >>> 8 < 2 ^ 20 := by have := sh c 8; omega
  generalize c + c >>> 8 = d at hd ⊢
  rw [ush_nI (by omega) (by decide), nI_add, and_nI (by have := sh d 16; omega) (by decide)]
end
