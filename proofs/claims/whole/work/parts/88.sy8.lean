/-! The class shares seats out: its table holds what is most. -/
noncomputable section
/-- how many of the set lie below t -/
def bcn (m : Nat) : Nat → Nat
  | 0 => 0
  | t + 1 => bcn m t + (if m.testBit t = true then 1 else 0)
theorem bcn_s1 {m t : Nat} (h : m.testBit t = true) : bcn m (t + 1) = bcn m t + 1 := by
  show bcn m t + (if m.testBit t = true then 1 else 0) = _
  rw [if_pos h]
theorem bcn_s0 {m t : Nat} (h : ¬ m.testBit t = true) : bcn m (t + 1) = bcn m t := by
  show bcn m t + (if m.testBit t = true then 1 else 0) = _
  rw [if_neg h]
  rfl
theorem bcn_le {m a : Nat} : ∀ b, a ≤ b → bcn m a ≤ bcn m b := by
  intro b
  induction b with
  | zero => intro h; rw [show a = 0 by omega]; exact Nat.le_refl _
  | succ b ih =>
    intro h
    by_cases e : a = b + 1
    · rw [e]; exact Nat.le_refl _
    · have := ih (by omega)
      show bcn m a ≤ bcn m b + _
      omega
theorem bcn_full {L : Nat} : ∀ t, bcn (2 ^ L - 1) t = min t L := by
  intro t
  induction t with
  | zero => rw [Nat.zero_min]; rfl
  | succ t ih =>
    by_cases h : t < L
    · rw [bcn_s1 (by rw [Nat.testBit_two_pow_sub_one]; simp [h]), ih]
      omega
    · rw [bcn_s0 (by rw [Nat.testBit_two_pow_sub_one]; simp [h]), ih]
      omega
theorem begin_spec {m : Nat} {wo : Nat → Int32} (hm : m < 65536) (h8 : bcn m 16 ≤ 8) : (K_begin (nI m) wo).1 = bcn m 16 ∧ ∀ t, t < 16 → m.testBit t = true → (K_begin (nI m) wo).2 (bcn m t) = nI t := by
  have h := fe_inv (F := F_begin_7 (nI m) wo) (fun i z => z.1 = bcn m i ∧ ∀ t, t < i → m.testBit t = true → z.2 (bcn m t) = nI t) (fun r => r.1 = bcn m 16 ∧ ∀ t, t < 16 → m.testBit t = true → r.2 (bcn m t) = nI t) 16 0 (0, wo) ⟨rfl, fun t h => by omega⟩ (fun j z _ hj hz => by
    obtain ⟨z1, z2⟩ := hz
    have hj : j < 16 := by omega
    have hc := @bcn_le m j 16 (by omega)
    have hlt : nI z.1 < (8 : Int32) ↔ z.1 < 8 := nI_lt_iff (b := 8) (by omega) (by omega)
    have hb := bit0 (m := m) (j := j) (by omega) (by omega)
    unfold F_begin_7
    by_cases c : z.1 < 8
    · rw [if_pos (hlt.mpr c)]
      by_cases b : m.testBit j = true
      · rw [if_neg (fun h => by rw [hb.mp h] at b; cases b)]
        refine ⟨fun z' hz' => ?_, fun r hr => by cases hr⟩
        cases hz'
        refine ⟨by rw [bcn_s1 b, z1], fun t ht hbt => ?_⟩
        by_cases e : t = j
        · subst e
          rw [← z1]
          exact pk_us
        · have h1 := @bcn_le m (t + 1) j (by omega)
          rw [bcn_s1 hbt] at h1
          show upd z.2 z.1 (nI j) (bcn m t) = nI t
          rw [pk_un (by omega)]
          exact z2 t (by omega) hbt
      · rw [if_pos (hb.mpr (by simpa using b))]
        refine ⟨fun z' hz' => ?_, fun r hr => by cases hr⟩
        cases hz'
        refine ⟨by rw [bcn_s0 b, z1], fun t ht hbt => ?_⟩
        by_cases e : t = j
        · subst e; exact absurd hbt b
        · exact z2 t (by omega) hbt
    · rw [if_neg (fun h => c (hlt.mp h))]
      refine ⟨fun z' hz' => (by cases hz'), fun r hr => ?_⟩
      cases hr
      refine ⟨by show z.1 = _; omega, fun t ht hbt => ?_⟩
      by_cases e : t < j
      · exact z2 t e hbt
      · have h1 := @bcn_le m j t (by omega)
        have h2 := @bcn_le m (t + 1) 16 (by omega)
        rw [bcn_s1 hbt] at h2
        omega)
  rw [Nat.zero_add] at h
  unfold K_begin
  generalize fe (F_begin_7 (nI m) wo) 16 0 (0, wo) = s at h ⊢
  rcases s with z | r
  · exact h.1 z rfl
  · exact h.2 r rfl
theorem rank_nI {n p : Nat} (hn : n ≤ 8) (hp : p < 65536) : K_rank n (nI p) = nI (rkT p n) := by
  have h := fo_inv (F := F_rank_4 n (nI p)) (fun i z => i ≤ n → z = nI (rkT p i)) n 0 0 (fun _ => rfl) (fun k z _ hk hz hle => by
    have hk8 : k < 8 := by omega
    have hb := bit_tb (m := p) (j := k) (by omega) (by omega)
    unfold K_bit at hb
    have hs : (2 : Int32) * ((7 : Int32) - nI k) = nI (2 * (7 - k)) := by
      rw [show (7 : Int32) = nI 7 from rfl, pk_sub (by omega), show (2 : Int32) = nI 2 from rfl, pk_mul]
    unfold F_rank_4
    rw [hz (by omega), hb, hs, rkT_succ]
    by_cases b : p.testBit k = true
    · rw [if_pos b, if_pos b, shl1_nI _ (by omega), nI_add, Nat.pow_mul]
    · rw [if_neg b, if_neg b, show (0 : Int32) = nI 0 from rfl, pk_shlN _ (2 * (7 - k)) (sh_amt _ (by omega)) (by rw [Nat.zero_mul]; decide), Nat.zero_mul, nI_add])
  rw [Nat.zero_add] at h
  exact h (Nat.le_refl _)
theorem fo_updv {F : Nat → (Nat → Int32) → Nat → Int32} {v : Nat → Int32} {N : Nat} (hF : ∀ k z, k < N → F k z = upd z k (v k)) (b : Nat → Int32) : ∀ s, s < N → fo F N 0 b s = v s := by
  have h := fo_inv (F := F) (fun i z => ∀ s, s < i → z s = v s) N 0 b (fun s h => by omega) (fun j z _ hj hz s hs => by
    rw [hF j z (by omega)]
    by_cases e : s = j
    · subst e; exact pk_us
    · rw [pk_un e]
      exact hz s (by omega))
  rw [Nat.zero_add] at h
  exact h
theorem subI {x y : Int32} (h1 : -2147483648 ≤ x.toInt - y.toInt) (h2 : x.toInt - y.toInt ≤ 2147483647) : (x - y).toInt = x.toInt - y.toInt := by
  rw [Int32.toInt_sub]
  exact Int.bmod_eq_of_le (by omega) (by omega)
theorem mulI {x y : Int32} (h1 : -2147483648 ≤ x.toInt * y.toInt) (h2 : x.toInt * y.toInt ≤ 2147483647) : (x * y).toInt = x.toInt * y.toInt := by
  rw [Int32.toInt_mul]
  exact Int.bmod_eq_of_le (by omega) (by omega)
def togN (S : Sch) (C : Les) (p : Nat) : Nat := (K_tog S C (nI p)).toNatClampNeg
theorem tog_N {S : Sch} (hw : wS S) (C : Les) {p : Nat} (h : p < 131072) : K_tog S C (nI p) = nI (togN S C p) ∧ togN S C p ≤ 5049 := by
  obtain ⟨n, h1, h2⟩ := tog_sn hw C h
  unfold togN
  rw [h2, nI_clamp (by omega)]
  exact ⟨rfl, h1⟩
def sOk (S : Sch) (P : Pln) (k p : Nat) : Prop := k < 3 ∧ p < 2 ^ S.1 ∧ okS S (P.2 k) p
def sWv (S : Sch) (P : Pln) (k p : Nat) : Int := 65536 * (togN S (P.2 k) p : Int) - ((k * rkT p S.1 : Nat) : Int)
def sH (S : Sch) (p : Nat) : Int := -3 * (rkT p S.1 : Int)
theorem rkT_le {S : Sch} (h8 : S.1 ≤ 8) (p : Nat) : rkT p S.1 ≤ 65535 := by
  have h := rkT_lt p S.1 h8
  have h2 : 1 ≤ 4 ^ (8 - S.1) := Nat.one_le_pow _ _ (by decide)
  omega
theorem krk {k r : Nat} (hk : k < 3) (hr : r ≤ 65535) : k * r ≤ 131070 := by
  have : k * r ≤ 2 * 65535 := Nat.mul_le_mul (by omega) hr
  omega
theorem sWv_bd {S : Sch} {P : Pln} (hw : wS S) (h8 : S.1 ≤ 8) (k p : Nat) (h : sOk S P k p) : -196605 ≤ sWv S P k p ∧ sWv S P k p ≤ 330891264 := by
  obtain ⟨h1, h2, -⟩ := h
  have hp : 2 ^ S.1 ≤ 2 ^ 8 := Nat.pow_le_pow_right (by decide) h8
  have h3 := (tog_N hw (P.2 k) (p := p) (by omega)).2
  have h4 := krk h1 (rkT_le h8 p)
  unfold sWv
  omega
theorem sH_bd {S : Sch} (h8 : S.1 ≤ 8) (p : Nat) : -196605 ≤ sH S p ∧ sH S p ≤ 0 := by
  have h4 := rkT_le h8 p
  unfold sH
  omega
theorem seatAll_sp {S : Sch} {P : Pln} (hw : wS S) (h8 : S.1 ≤ 8) (h3 : P.1 ≤ 3) (wo be we : Nat → Int32) : (K_seatAll S P wo be we).1 = S.1 ∧ Sp (sOk S P) (sWv S P) (sH S) S.1 P.1 (K_seatAll S P wo be we).2.2.1 := by
  have hp : 2 ^ S.1 ≤ 2 ^ 8 := Nat.pow_le_pow_right (by decide) h8
  have hb1 : (K_begin (K_all S) wo).1 = S.1 := by
    rw [all_nI hw.1, (begin_spec (m := 2 ^ S.1 - 1) (by omega) (by rw [bcn_full]; omega)).1, bcn_full]
    omega
  have h := fe_inv (F := F_seatAll_42 S P wo be we) (fun K z => K ≤ P.1 → Sp (sOk S P) (sWv S P) (sH S) S.1 K z.1) (fun _ => False) P.1 0 ((fo (F_seatAll_10 S P wo be we) (2 ^ ((K_begin (K_all S) wo).1)) 0 be), we) (fun _ => by
    rw [hb1]
    refine Sp_zero (fun s hs => ?_)
    have e := fo_updv (F := F_seatAll_10 S P wo be we) (v := fun k => (-3 : Int32) * (K_rank S.1 (nI k))) (N := 2 ^ S.1) (fun k z _ => by unfold F_seatAll_10; rw [hb1]) be s hs
    show ((fo (F_seatAll_10 S P wo be we) (2 ^ S.1) 0 be) s).toInt = sH S s
    rw [e, rank_nI h8 (by omega)]
    have h4 := rkT_le h8 s
    have t1 : (nI (rkT s S.1)).toInt = (rkT s S.1 : Int) := nI_toInt (by omega)
    have t2 : (-3 : Int32).toInt = -3 := by decide
    rw [mulI (by rw [t1, t2]; omega) (by rw [t1, t2]; omega), t1, t2]
    rfl) (fun j z _ hj hz => by
    have hj : j < P.1 := by omega
    have c3 : nI j < (3 : Int32) := (nI_lt_iff (b := 3) (by omega) (by omega)).mpr (by omega)
    unfold F_seatAll_42
    rw [if_pos c3, hb1]
    refine ⟨fun z' hz' _ => ?_, fun r hr => by cases hr⟩
    cases hz'
    have hwe : ∀ p, p < 2 ^ S.1 → fo (F_seatAll_58 S P wo be we j z) (2 ^ S.1) 0 z.2 p = if (K_maySit S (P.2 j) (nI p)) = (0 : Int32) then (-1000000000 : Int32) else (((K_tog S (P.2 j) (nI p)) * (65536 : Int32)) - ((nI j) * (K_rank S.1 (nI p)))) := fo_updv (fun k z _ => by
      unfold F_seatAll_58
      rw [hb1]
      split <;> rfl) z.2
    refine Sp_succ (be := z.1) (we := fo (F_seatAll_58 S P wo be we j z) (2 ^ S.1) 0 z.2) (by omega) (sWv_bd hw h8) (sH_bd h8) (⟨by omega, Nat.two_pow_pos _, okS_0⟩) (fun p hpl => ?_) (give_spec h8).1 (hz (by omega))
    rw [hwe p hpl]
    have hms := maySit_iff (C := P.2 j) hw hpl
    constructor
    · rintro ⟨-, -, ho⟩
      rw [if_neg (fun c => hms.mp c ho)]
      obtain ⟨t1, t2⟩ := tog_N hw (P.2 j) (p := p) (by omega)
      have h4 := rkT_le h8 p
      have h5 := krk (k := j) (by omega) h4
      have e : (K_tog S (P.2 j) (nI p) * 65536 - nI j * K_rank S.1 (nI p)).toInt = sWv S P j p := by
        rw [t1, rank_nI h8 (by omega), pk_mul, show (65536 : Int32) = nI 65536 from rfl, pk_mul]
        have u1 : (nI (togN S (P.2 j) p * 65536)).toInt = ((togN S (P.2 j) p * 65536 : Nat) : Int) := nI_toInt (by omega)
        have u2 : (nI (j * rkT p S.1)).toInt = ((j * rkT p S.1 : Nat) : Int) := nI_toInt (by omega)
        rw [subI (by rw [u1, u2]; omega) (by rw [u1, u2]; omega), u1, u2]
        unfold sWv
        omega
      refine ⟨e, fun c => ?_⟩
      rw [c] at e
      have := (sWv_bd hw h8 j p ⟨by omega, hpl, ho⟩).1
      rw [← e, show (-1000000000 : Int32).toInt = -1000000000 from by decide] at this
      omega
    · intro ho
      rw [if_pos (hms.mpr (fun c => ho ⟨by omega, hpl, c⟩))])
  rw [Nat.zero_add] at h
  unfold K_seatAll
  generalize fe (F_seatAll_42 S P wo be we) P.1 0 ((fo (F_seatAll_10 S P wo be we) (2 ^ ((K_begin (K_all S) wo).1)) 0 be), we) = s at h ⊢
  rcases s with z | r
  · exact ⟨hb1, h.1 z rfl (Nat.le_refl _)⟩
  · exact absurd rfl (fun e => h.2 r e)
end
