/-! Rows of classes as numbers: digits, and what they count. -/
noncomputable section
def dg (n L r l : Nat) : Nat := r / (n + 1) ^ (L - 1 - l) % (n + 1)
theorem dg_succ {n L r l : Nat} (h : l < L) : dg n (L + 1) r l = dg n L (r / (n + 1)) l := by
  unfold dg
  rw [show L + 1 - 1 - l = (L - 1 - l) + 1 by omega, Nat.pow_succ, Nat.mul_comm, ← Nat.div_div_eq_div_mul]
theorem dg_last {n L r : Nat} : dg n (L + 1) r L = r % (n + 1) := by
  unfold dg
  rw [show L + 1 - 1 - L = 0 by omega, Nat.pow_zero, Nat.div_one]
theorem dg_le {n L r l : Nat} : dg n L r l ≤ n := by
  have := Nat.mod_lt (r / (n + 1) ^ (L - 1 - l)) (show 0 < n + 1 by omega)
  unfold dg
  omega
def nr (n : Nat) (a : Nat → Nat) : Nat → Nat
  | 0 => 0
  | L + 1 => nr n a L * (n + 1) + min (a L) n
theorem nr_lt (n : Nat) (a : Nat → Nat) : ∀ L, nr n a L < (n + 1) ^ L := by
  intro L
  induction L with
  | zero => exact Nat.one_pos
  | succ L ih =>
    unfold nr
    rw [Nat.pow_succ]
    have h1 : nr n a L * (n + 1) + (n + 1) ≤ (n + 1) ^ L * (n + 1) := by
      rw [← Nat.succ_mul]
      exact Nat.mul_le_mul_right _ ih
    have h2 : min (a L) n ≤ n := Nat.min_le_right _ _
    omega
theorem nr_div (n : Nat) (a : Nat → Nat) (L : Nat) : nr n a (L + 1) / (n + 1) = nr n a L ∧ nr n a (L + 1) % (n + 1) = min (a L) n := by
  have h2 : min (a L) n ≤ n := Nat.min_le_right _ _
  constructor
  · show (nr n a L * (n + 1) + min (a L) n) / (n + 1) = nr n a L
    rw [Nat.mul_comm, Nat.mul_add_div (by omega), Nat.div_eq_of_lt (by omega)]
    omega
  · unfold nr
    rw [Nat.mul_comm, Nat.mul_add_mod, Nat.mod_eq_of_lt (by omega)]
theorem dg_nr (n : Nat) (a : Nat → Nat) : ∀ L l, l < L → dg n L (nr n a L) l = min (a l) n := by
  intro L
  induction L with
  | zero => intro l h; omega
  | succ L ih =>
    intro l h
    by_cases e : l = L
    · subst e
      rw [dg_last, (nr_div n a l).2]
    · rw [dg_succ (by omega), (nr_div n a L).1, ih l (by omega)]
def dd (n k : Nat) : Nat := if k < n then k else 3
def RR (n : Nat) : Nat → Nat → Nat
  | 0, _ => 0
  | L + 1, r => 4 * RR n L (r / (n + 1)) + dd n (r % (n + 1))
theorem dd_le {n k : Nat} (hn : n ≤ 3) : dd n k ≤ 3 := by
  unfold dd
  split <;> omega
theorem RR_mono {n : Nat} (hn : n ≤ 3) : ∀ L r r', r < r' → r' < (n + 1) ^ L → RR n L r < RR n L r' := by
  intro L
  induction L with
  | zero => intro r r' h1 h2; rw [Nat.pow_zero] at h2; omega
  | succ L ih =>
    intro r r' h1 h2
    unfold RR
    have d1 := @dd_le n (r % (n + 1)) hn
    have hq : r / (n + 1) ≤ r' / (n + 1) := Nat.div_le_div_right (by omega)
    rw [Nat.pow_succ] at h2
    have h3 : r' / (n + 1) < (n + 1) ^ L := Nat.div_lt_of_lt_mul (by rw [Nat.mul_comm]; exact h2)
    by_cases e : r / (n + 1) = r' / (n + 1)
    · have m1 := Nat.div_add_mod r (n + 1)
      have m2 := Nat.div_add_mod r' (n + 1)
      have m3 := Nat.mod_lt r' (show 0 < n + 1 by omega)
      rw [e] at m1
      have hlt : r % (n + 1) < r' % (n + 1) := by omega
      rw [e]
      have : dd n (r % (n + 1)) < dd n (r' % (n + 1)) := by
        unfold dd
        split <;> split <;> omega
      omega
    · have := ih _ _ (Nat.lt_of_le_of_ne hq e) h3
      omega
theorem RR_lt {n : Nat} (hn : n ≤ 3) : ∀ L r, RR n L r < 4 ^ L := by
  intro L
  induction L with
  | zero => intro r; exact Nat.one_pos
  | succ L ih =>
    intro r
    unfold RR
    have := ih (r / (n + 1))
    have := @dd_le n (r % (n + 1)) hn
    rw [Nat.pow_succ]
    omega
theorem RR_dig {n : Nat} (hn : n ≤ 3) : ∀ L r l, l < L → RR n L r / 4 ^ (L - 1 - l) % 4 = dd n (dg n L r l) := by
  intro L
  induction L with
  | zero => intro r l h; omega
  | succ L ih =>
    intro r l h
    have h1 := @dd_le n (r % (n + 1)) hn
    by_cases e : l = L
    · subst e
      rw [dg_last, show l + 1 - 1 - l = 0 by omega, Nat.pow_zero, Nat.div_one]
      unfold RR
      omega
    · rw [dg_succ (by omega), ← ih _ l (by omega), show L + 1 - 1 - l = (L - 1 - l) + 1 by omega, Nat.pow_succ, Nat.mul_comm, ← Nat.div_div_eq_div_mul]
      have : RR n (L + 1) r / 4 = RR n L (r / (n + 1)) := by
        show (4 * RR n L (r / (n + 1)) + dd n (r % (n + 1))) / 4 = _
        omega
      rw [this]
/-- the sum over the first t of v l * 4^(7-l) -/
def sg (v : Nat → Nat) : Nat → Nat
  | 0 => 0
  | t + 1 => sg v t + v t * 4 ^ (7 - t)
theorem sg_congr {v w : Nat → Nat} : ∀ t, (∀ l, l < t → v l = w l) → sg v t = sg w t := by
  intro t
  induction t with
  | zero => intro _; rfl
  | succ t ih =>
    intro h
    unfold sg
    rw [ih (fun l hl => h l (by omega)), h t (by omega)]
theorem RR_sg {n : Nat} : ∀ L r, L ≤ 8 → RR n L r * 4 ^ (8 - L) = sg (fun l => dd n (dg n L r l)) L := by
  intro L
  induction L with
  | zero => intro r _; unfold RR sg; exact Nat.zero_mul _
  | succ L ih =>
    intro r hL
    unfold RR sg
    rw [sg_congr (w := fun l => dd n (dg n L (r / (n + 1)) l)) L (fun l hl => by rw [dg_succ hl]), ← ih _ (by omega), dg_last, show 8 - L = (8 - (L + 1)) + 1 by omega, Nat.pow_succ, show 8 - (L + 1) = 7 - L by omega, Nat.add_mul]
    have : 4 * RR n L (r / (n + 1)) * 4 ^ (7 - L) = RR n L (r / (n + 1)) * (4 ^ (7 - L) * 4) := by
      rw [Nat.mul_comm 4, Nat.mul_assoc, Nat.mul_comm 4]
    rw [this]
/-- a set's rank -/
def rkT (p : Nat) (t : Nat) : Nat := sg (fun l => if p.testBit l = true then 1 else 0) t
theorem rkT_succ (p t : Nat) : rkT p (t + 1) = rkT p t + (if p.testBit t = true then 4 ^ (7 - t) else 0) := by
  unfold rkT
  rw [sg]
  split
  · rw [Nat.one_mul]
  · rw [Nat.zero_mul]
def ksum (f : Nat → Nat) : Nat → Nat
  | 0 => 0
  | K + 1 => ksum f K + K * f K
theorem ksum_add (f g : Nat → Nat) : ∀ K, ksum (fun k => f k + g k) K = ksum f K + ksum g K := by
  intro K
  induction K with
  | zero => rfl
  | succ K ih =>
    unfold ksum
    rw [ih, Nat.mul_add]
    omega
theorem ksum_one (x c : Nat) : ∀ K, ksum (fun k => if x = k then c else 0) K = if x < K then x * c else 0 := by
  intro K
  induction K with
  | zero => rfl
  | succ K ih =>
    unfold ksum
    rw [ih]
    by_cases e : x = K
    · subst e
      rw [if_neg (Nat.lt_irrefl _), if_pos rfl, if_pos (by omega)]
      omega
    · by_cases f : x < K
      · rw [if_pos f, if_neg e, if_pos (by omega), Nat.mul_zero, Nat.add_zero]
      · rw [if_neg f, if_neg e, if_neg (by omega), Nat.mul_zero]
theorem ksum_congr {f g : Nat → Nat} : ∀ K, (∀ k, k < K → f k = g k) → ksum f K = ksum g K := by
  intro K
  induction K with
  | zero => intro _; rfl
  | succ K ih =>
    intro h
    unfold ksum
    rw [ih (fun k hk => h k (by omega)), h K (by omega)]
/-- all classes' ranks, weighed, and home's: the digits' number -/
theorem rank_sum {a : Nat → Nat} {L K : Nat} : ∀ t, t ≤ L → ksum (fun k => rkT (pt a (2 ^ L - 1) k L) t) K + 3 * rkT (rs a (2 ^ L - 1) K L) t = sg (fun l => if a l < K then a l else 3) t := by
  intro t
  induction t with
  | zero =>
    intro _
    have : ∀ K, ksum (fun k => rkT (pt a (2 ^ L - 1) k L) 0) K = 0 := by
      intro K
      induction K with
      | zero => rfl
      | succ K ih => unfold ksum; rw [ih]; rfl
    rw [this]
    rfl
  | succ t ih =>
    intro ht
    have hb : (2 ^ L - 1).testBit t = true := by
      rw [Nat.testBit_two_pow_sub_one]
      simp; omega
    have ep : ∀ k, (pt a (2 ^ L - 1) k L).testBit t = decide (a t = k) := by
      intro k
      unfold pt
      rw [sfl_tb, hb]
      simp [show t < L by omega]
    have er : (rs a (2 ^ L - 1) K L).testBit t = decide (K ≤ a t) := by
      unfold rs
      rw [sfl_tb, hb]
      simp [show t < L by omega]
    have e1 : ksum (fun k => rkT (pt a (2 ^ L - 1) k L) (t + 1)) K = ksum (fun k => rkT (pt a (2 ^ L - 1) k L) t) K + ksum (fun k => if a t = k then 4 ^ (7 - t) else 0) K := by
      rw [← ksum_add]
      refine ksum_congr K (fun k _ => ?_)
      rw [rkT_succ, ep]
      simp
    rw [e1, rkT_succ, er, sg, ← ih (by omega), ksum_one]
    by_cases c : a t < K
    · have c2 : ¬ K ≤ a t := by omega
      simp [c, c2]
      omega
    · have c2 : K ≤ a t := by omega
      simp [c, c2]
      omega
theorem rkT_lt (p : Nat) : ∀ t, t ≤ 8 → rkT p t + 4 ^ (8 - t) ≤ 65536 := by
  intro t
  induction t with
  | zero => intro _; rw [show rkT p 0 = 0 from rfl]; decide
  | succ t ih =>
    intro h
    have h1 := ih (by omega)
    rw [rkT_succ]
    rw [show 8 - t = (8 - (t + 1)) + 1 by omega, Nat.pow_succ] at h1
    rw [show 7 - t = 8 - (t + 1) by omega]
    split <;> omega
end
