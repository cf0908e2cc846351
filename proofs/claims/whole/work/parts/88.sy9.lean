/-! Seats: both sides answer alike. -/
noncomputable section
/-- what is learnt where a row's classes sit so -/
def Vt (S : Sch) (P : Pln) (a : Nat → Nat) : Nat → Nat
  | 0 => 0
  | K + 1 => Vt S P a K + togN S (P.2 K) (pt a (2 ^ S.1 - 1) K S.1)
theorem vsum_seats {S : Sch} {P : Pln} {a : Nat → Nat} : ∀ K, vsum (sWv S P) a (2 ^ S.1 - 1) S.1 K = 65536 * (Vt S P a K : Int) - (ksum (fun k => rkT (pt a (2 ^ S.1 - 1) k S.1) S.1) K : Int) := by
  intro K
  induction K with
  | zero => rfl
  | succ K ih =>
    have e1 : vsum (sWv S P) a (2 ^ S.1 - 1) S.1 (K + 1) = vsum (sWv S P) a (2 ^ S.1 - 1) S.1 K + sWv S P K (pt a (2 ^ S.1 - 1) K S.1) := rfl
    have e2 : Vt S P a (K + 1) = Vt S P a K + togN S (P.2 K) (pt a (2 ^ S.1 - 1) K S.1) := rfl
    have e3 : ksum (fun k => rkT (pt a (2 ^ S.1 - 1) k S.1) S.1) (K + 1) = ksum (fun k => rkT (pt a (2 ^ S.1 - 1) k S.1) S.1) K + K * rkT (pt a (2 ^ S.1 - 1) K S.1) S.1 := rfl
    rw [e1, e2, e3, ih]
    unfold sWv
    omega
theorem Vt_lval {S : Sch} {P : Pln} (hw : wS S) (r : Nat) : lval S P r = nI (Vt S P (dg P.1 S.1 r) P.1) := by
  have hp : 2 ^ S.1 ≤ 2 ^ 16 := Nat.pow_le_pow_right (by decide) hw.1
  unfold lval
  have h := fo_inv (F := fun k z => z + K_tog S (P.2 k) (nI (pt (dg P.1 S.1 r) (2 ^ S.1 - 1) k S.1))) (fun i z => z = nI (Vt S P (dg P.1 S.1 r) i)) P.1 0 0 rfl (fun j z _ _ hz => by
    have h1 := @pt_lt (dg P.1 S.1 r) (2 ^ S.1 - 1) j S.1
    show z + _ = _
    rw [hz, (tog_N hw (P.2 j) (by omega)).1, nI_add]
    rfl)
  rw [Nat.zero_add] at h
  exact h
theorem Vt_le {S : Sch} {P : Pln} (hw : wS S) (a : Nat → Nat) : ∀ K, Vt S P a K ≤ 5049 * K := by
  have hp : 2 ^ S.1 ≤ 2 ^ 16 := Nat.pow_le_pow_right (by decide) hw.1
  intro K
  induction K with
  | zero => exact Nat.le_refl _
  | succ K ih =>
    have h1 := @pt_lt a (2 ^ S.1 - 1) K S.1
    have h2 := (tog_N hw (P.2 K) (p := pt a (2 ^ S.1 - 1) K S.1) (by omega)).2
    show Vt S P a K + togN S (P.2 K) (pt a (2 ^ S.1 - 1) K S.1) ≤ _
    omega
theorem Vt_congr {S : Sch} {P : Pln} {a b : Nat → Nat} : ∀ K, (∀ k, k < K → pt a (2 ^ S.1 - 1) k S.1 = pt b (2 ^ S.1 - 1) k S.1) → Vt S P a K = Vt S P b K := by
  intro K
  induction K with
  | zero => intro _; rfl
  | succ K ih =>
    intro h
    show Vt S P a K + _ = Vt S P b K + _
    rw [ih (fun k hk => h k (by omega)), h K (by omega)]
/-- the number of a row of classes -/
def Rk (S : Sch) (P : Pln) (r : Nat) : Nat := RR P.1 S.1 r * 4 ^ (8 - S.1)
theorem val_seats {S : Sch} {P : Pln} (h8 : S.1 ≤ 8) (a : Nat → Nat) : vsum (sWv S P) a (2 ^ S.1 - 1) S.1 P.1 + sH S (rs a (2 ^ S.1 - 1) P.1 S.1) = 65536 * (Vt S P (dg P.1 S.1 (nr P.1 a S.1)) P.1 : Int) - (Rk S P (nr P.1 a S.1) : Int) := by
  have e1 := rank_sum (a := a) (L := S.1) (K := P.1) S.1 (Nat.le_refl _)
  have e2 : sg (fun l => if a l < P.1 then a l else 3) S.1 = Rk S P (nr P.1 a S.1) := by
    unfold Rk
    rw [RR_sg _ _ h8]
    refine sg_congr _ (fun l hl => ?_)
    rw [dg_nr _ _ _ _ hl]
    unfold dd
    by_cases c : a l < P.1
    · rw [if_pos c, Nat.min_eq_left (by omega), if_pos c]
    · rw [if_neg c, Nat.min_eq_right (by omega), if_neg (Nat.lt_irrefl _)]
  have e3 : Vt S P a P.1 = Vt S P (dg P.1 S.1 (nr P.1 a S.1)) P.1 := Vt_congr _ (fun k hk => ptF_eq (fun j => by
    rw [ptF]
    constructor
    · rintro ⟨u, v⟩
      exact ⟨u, by rw [dg_nr _ _ _ _ u, v]; omega⟩
    · rintro ⟨u, v⟩
      rw [dg_nr _ _ _ _ u] at v
      exact ⟨u, by omega⟩))
  rw [vsum_seats, ← e3, ← e2, ← e1]
  unfold sH
  omega
theorem okA_rgt {S : Sch} {P : Pln} (h3 : P.1 ≤ 3) (a : Nat → Nat) : okA (sOk S P) a (2 ^ S.1 - 1) S.1 P.1 ↔ rgt S P (nr P.1 a S.1) := by
  have e : ∀ k, k < P.1 → pt a (2 ^ S.1 - 1) k S.1 = pt (dg P.1 S.1 (nr P.1 a S.1)) (2 ^ S.1 - 1) k S.1 := fun k hk => ptF_eq (fun j => by
    rw [ptF]
    constructor
    · rintro ⟨u, v⟩
      exact ⟨u, by rw [dg_nr _ _ _ _ u, v]; omega⟩
    · rintro ⟨u, v⟩
      rw [dg_nr _ _ _ _ u] at v
      exact ⟨u, by omega⟩)
  constructor
  · intro h k hk
    rw [← e k hk]
    exact (h k hk).2.2
  · intro h k hk
    refine ⟨by omega, pt_lt, ?_⟩
    rw [e k hk]
    exact h k hk
theorem dg_self {n L : Nat} : ∀ r, r < (n + 1) ^ L → nr n (dg n L r) L = r := by
  induction L with
  | zero => intro r h; rw [Nat.pow_zero] at h; show 0 = r; omega
  | succ L ih =>
    intro r h
    have h2 : r / (n + 1) < (n + 1) ^ L := Nat.div_lt_of_lt_mul (by rw [Nat.mul_comm, ← Nat.pow_succ]; exact h)
    have hc : ∀ M, M ≤ L → nr n (dg n (L + 1) r) M = nr n (dg n L (r / (n + 1))) M := by
      intro M
      induction M with
      | zero => intro _; rfl
      | succ M ihM =>
        intro hM
        show nr n (dg n (L + 1) r) M * (n + 1) + min (dg n (L + 1) r M) n = nr n (dg n L (r / (n + 1))) M * (n + 1) + min (dg n L (r / (n + 1)) M) n
        rw [ihM (by omega), dg_succ (by omega)]
    show nr n (dg n (L + 1) r) L * (n + 1) + min (dg n (L + 1) r L) n = r
    rw [hc L (Nat.le_refl _), ih _ h2, dg_last, Nat.min_eq_left (by have := Nat.mod_lt r (show 0 < n + 1 by omega); omega), Nat.mul_comm]
    exact Nat.div_add_mod r (n + 1)
theorem Rk_lt {S : Sch} {P : Pln} (h8 : S.1 ≤ 8) (h3 : P.1 ≤ 3) (r : Nat) : Rk S P r < 65536 := by
  have h := RR_lt h3 S.1 r
  unfold Rk
  have e : 4 ^ S.1 * 4 ^ (8 - S.1) = 65536 := by
    rw [← Nat.pow_add, show S.1 + (8 - S.1) = 8 by omega]
  have : RR P.1 S.1 r * 4 ^ (8 - S.1) < 4 ^ S.1 * 4 ^ (8 - S.1) := Nat.mul_lt_mul_of_pos_right h (Nat.pow_pos (by decide))
  omega
/-- the class's table at the full set: by the row that the reference finds -/
theorem seats_tab {S : Sch} {P : Pln} {be : Nat → Int32} (hw : wS S) (h8 : S.1 ≤ 8) (h3 : P.1 ≤ 3) (hS : Sp (sOk S P) (sWv S P) (sH S) S.1 P.1 be) {b : Nat} (hb : b < (P.1 + 1) ^ S.1) (hr : rgt S P b) (hm : ∀ r, r < (P.1 + 1) ^ S.1 → rgt S P r → lval S P r ≤ lval S P b) (hf : ∀ r, r < b → rgt S P r → lval S P r < lval S P b) : (be (2 ^ S.1 - 1)).toInt = 65536 * (Vt S P (dg P.1 S.1 b) P.1 : Int) - (Rk S P b : Int) := by
  have hpos := Nat.two_pow_pos S.1
  obtain ⟨s1, a, s2, s3⟩ := hS (2 ^ S.1 - 1) (by omega)
  have hb1 := s1 (dg P.1 S.1 b) ((okA_rgt h3 _).mpr (by rw [dg_self b hb]; exact hr))
  rw [val_seats h8, dg_self b hb] at hb1
  rw [val_seats h8] at s3
  have ha := (okA_rgt h3 a).mp s2
  have hal := nr_lt P.1 a S.1
  generalize nr P.1 a S.1 = r at s3 ha hal
  have k1 := Rk_lt (P := P) h8 h3 b
  have k2 := Rk_lt (P := P) h8 h3 r
  have l1 := hm r hal ha
  have v1 := Vt_le (P := P) hw (dg P.1 S.1 r) P.1
  have v2 := Vt_le (P := P) hw (dg P.1 S.1 b) P.1
  rw [Vt_lval hw, Vt_lval hw, le_toInt, nI_toInt (by omega), nI_toInt (by omega)] at l1
  have hrb : r = b := by
    rcases Nat.lt_trichotomy r b with c | c | c
    · have l2 := hf r c ha
      rw [Vt_lval hw, Vt_lval hw, lt_toInt, nI_toInt (by omega), nI_toInt (by omega)] at l2
      omega
    · exact c
    · have l2 : RR P.1 S.1 b * 4 ^ (8 - S.1) < RR P.1 S.1 r * 4 ^ (8 - S.1) := Nat.mul_lt_mul_of_pos_right (RR_mono h3 S.1 b r c hal) (Nat.pow_pos (by decide))
      have l3 : Rk S P b < Rk S P r := l2
      omega
  rw [hrb] at s3
  exact s3
theorem most_tab {L : Nat} {be : Nat → Int32} {V R : Nat} (hV : V ≤ 30000) (hR : R < 65536) (h : (be (2 ^ L - 1)).toInt = 65536 * (V : Int) - (R : Int)) : K_most L be = nI V ∧ K_most L be * 65536 - be (2 ^ L - 1) = nI R := by
  have e1 : K_most L be = nI V := by
    unfold K_most
    have t1 : (be (2 ^ L - 1) + 65536).toInt = 65536 * (V : Int) - R + 65536 := by
      have u : (65536 : Int32).toInt = 65536 := by decide
      rw [addI (by rw [h, u]; omega) (by rw [h, u]; omega), h, u]
    have t2 : (be (2 ^ L - 1) + 65536 - 1).toInt = 65536 * (V : Int) - R + 65535 := by
      have u : (1 : Int32).toInt = 1 := by decide
      rw [subI (by rw [t1, u]; omega) (by rw [t1, u]; omega), t1, u]
      omega
    have t3 : be (2 ^ L - 1) + 65536 - 1 = nI (65536 * V + 65535 - R) := by
      refine Int32.toInt_inj.mp ?_
      rw [t2, nI_toInt (by omega)]
      omega
    rw [t3, show (65536 : Int32) = nI 65536 from rfl, pk_div (by omega) (by omega) (by omega)]
    exact congrArg nI (by omega)
  refine ⟨e1, ?_⟩
  rw [e1, show (65536 : Int32) = nI 65536 from rfl, pk_mul]
  refine Int32.toInt_inj.mp ?_
  have u : (nI (V * 65536)).toInt = ((V * 65536 : Nat) : Int) := nI_toInt (by omega)
  rw [subI (by rw [u, h]; omega) (by rw [u, h]; omega), u, h, nI_toInt (by omega)]
  omega
theorem and3 (x : Nat) : x &&& 3 = x % 4 := Nat.and_two_pow_sub_one_eq_mod x 2
theorem class_tab {S : Sch} {P : Pln} {be : Nat → Int32} {V b l : Nat} (h8 : S.1 ≤ 8) (h3 : P.1 ≤ 3) (hl : l < S.1) (hV : V ≤ 30000) (h : (be (2 ^ S.1 - 1)).toInt = 65536 * (V : Int) - (Rk S P b : Int)) : K_classOf S.1 be l = nI (dd P.1 (dg P.1 S.1 b l)) := by
  have hR := Rk_lt (P := P) h8 h3 b
  obtain ⟨-, e⟩ := most_tab hV hR h
  unfold K_classOf
  rw [e, show (7 : Int32) - nI l = nI (7 - l) from pk_sub (a := 7) (b := l) (by omega), show (2 : Int32) * nI (7 - l) = nI (2 * (7 - l)) from pk_mul 2 _, pk_shrN (by omega) _ (2 * (7 - l)) (sh_amt _ (by omega)), show (3 : Int32) = nI 3 from rfl, and_nI (by have := Nat.div_le_self (Rk S P b) (2 ^ (2 * (7 - l))); omega) (by omega), and3, Nat.pow_mul]
  rw [← RR_dig h3 S.1 b l hl]
  unfold Rk
  rw [show (2 ^ 2 : Nat) = 4 from rfl, show 7 - l = (8 - S.1) + (S.1 - 1 - l) by omega, Nat.pow_add, ← Nat.div_div_eq_div_mul, Nat.mul_div_cancel _ (Nat.pow_pos (by decide))]
theorem seats0_eq {T : Tol} {i j : Nat} {wo be we g vt vr : Nat → Int32} (hw : wS (tS T i)) (hwP : wP (tP T j)) (h8 : (tS T i).1 ≤ 8) (h3 : (tP T j).1 ≤ 3) : (K_seats0 T i j wo be we).1 = (K_m_seats0 T i j g vt vr).1 := by
  obtain ⟨b, b1, b2, b3, b4, b5, b6⟩ := seats_run (F := F_m_seats0_112 T i j g vt vr) (g := g) (fun _ _ => rfl) hw hwP h8 h3 (vt := vt) (vr := vr)
  obtain ⟨s1, s2⟩ := seatAll_sp hw h8 h3 wo be we
  have ht := seats_tab hw h8 h3 s2 b1 b4 b5 b6
  have hv := Vt_le (P := tP T j) hw (dg (tP T j).1 (tS T i).1 b) (tP T j).1
  show K_most (K_seatAll (tS T i) (tP T j) wo be we).1 (K_seatAll (tS T i) (tP T j) wo be we).2.2.1 = _
  rw [s1, (most_tab (by omega) (Rk_lt h8 h3 b) ht).1, ← Vt_lval hw]
  exact b3.symm
theorem seatsL_eq {T : Tol} {i j l : Nat} {wo be we g vt vr : Nat → Int32} (hw : wS (tS T i)) (hwP : wP (tP T j)) (h8 : (tS T i).1 ≤ 8) (h3 : (tP T j).1 ≤ 3) (hl : l < (tS T i).1) : (K_seatsL T i j l wo be we).1 = (K_m_seatsL T i j l g vt vr).1 := by
  obtain ⟨b, b1, b2, b3, b4, b5, b6⟩ := seats_run (F := F_m_seatsL_112 T i j l g vt vr) (g := g) (fun _ _ => rfl) hw hwP h8 h3 (vt := vt) (vr := vr)
  obtain ⟨s1, s2⟩ := seatAll_sp hw h8 h3 wo be we
  have hrows := rows_le h3 h8
  have ht := seats_tab hw h8 h3 s2 b1 b4 b5 b6
  have hv := Vt_le (P := tP T j) hw (dg (tP T j).1 (tS T i).1 b) (tP T j).1
  have hc := class_tab (S := tS T i) (P := tP T j) (b := b) h8 h3 hl (by omega) ht
  have hd := @dg_le (tP T j).1 (tS T i).1 b l
  unfold K_seatsL K_m_seatsL
  rw [s1, show 10 + l - 10 = l by omega, hc, b2, nI_clamp (by omega), (lays_sem hw.1 (by omega) (by omega)).1 l hl]
  unfold dd
  by_cases c : dg (tP T j).1 (tS T i).1 b l < (tP T j).1
  · rw [if_pos c, if_pos ((nI_lt_iff (by omega) (by omega)).mpr c), if_neg (fun h => by have := nI_injL (by omega) (by omega) h; omega)]
  · rw [if_neg c, if_neg (fun h => by have := (nI_lt_iff (by omega) (by omega)).mp h; omega), if_pos (by rw [show dg (tP T j).1 (tS T i).1 b l = (tP T j).1 by omega])]
end
