/-! A teacher who is ill: the tables' row and the rows of classes come to one number. -/
noncomputable section
theorem Sp_skip {ok : Nat → Nat → Prop} {wv : Nat → Nat → Int} {h0 : Nat → Int} {m K : Nat} {be : Nat → Int32} (hok : ∀ p, ok K p → p = 0) (hok0 : ok K 0) (hw0 : wv K 0 = 0) (hS : Sp ok wv h0 m K be) : Sp ok wv h0 m (K + 1) be := by
  intro s hs
  obtain ⟨s1, a, s2, s3⟩ := hS s hs
  have hrs : ∀ a : Nat → Nat, pt a s K m = 0 → rs a s (K + 1) m = rs a s K m := by
    intro a h
    refine Nat.eq_of_testBit_eq (fun j => ?_)
    have h1 := congrArg (fun v => v.testBit j) h
    unfold pt at h1
    unfold rs
    rw [sfl_tb, Nat.zero_testBit] at h1
    rw [sfl_tb, sfl_tb]
    by_cases c : j < m
    · by_cases d : s.testBit j = true
      · by_cases e : a j = K
        · simp [c, d, e] at h1
        · by_cases f : K ≤ a j
          · simp [f, show K + 1 ≤ a j by omega]
          · simp [f, show ¬ K + 1 ≤ a j by omega]
      · simp [d]
    · simp [c]
  refine ⟨fun b hb => ?_, fun l => if a l < K then a l else K + 1, fun k hk => ?_, ?_⟩
  · have h1 := s1 b (fun k hk => hb k (by omega))
    have h2 := hok _ (hb K (by omega))
    unfold vsum
    rw [hrs b h2, h2, hw0]
    omega
  · by_cases e : k = K
    · subst e
      have : pt (fun l => if a l < k then a l else k + 1) s k m = 0 := by
        refine Nat.eq_of_testBit_eq (fun j => ?_)
        unfold pt
        rw [sfl_tb, Nat.zero_testBit]
        by_cases f : a j < k
        · simp [f, show ¬ a j = k by omega]
        · simp [f]
      rw [this]
      exact hok0
    · have : pt (fun l => if a l < K then a l else K + 1) s k m = pt a s k m := by
        refine Nat.eq_of_testBit_eq (fun j => ?_)
        unfold pt
        rw [sfl_tb, sfl_tb]
        by_cases f : a j < K
        · simp [f]
        · simp [f, show ¬ K + 1 = k by omega, show ¬ a j = k by omega]
      rw [this]
      exact s2 k (by omega)
  · have hpt : ∀ k, k < K → pt (fun l => if a l < K then a l else K + 1) s k m = pt a s k m := by
      intro k hk
      refine Nat.eq_of_testBit_eq (fun j => ?_)
      unfold pt
      rw [sfl_tb, sfl_tb]
      by_cases f : a j < K
      · simp [f]
      · simp [f, show ¬ K + 1 = k by omega, show ¬ a j = k by omega]
    have hpK : pt (fun l => if a l < K then a l else K + 1) s K m = 0 := by
      refine Nat.eq_of_testBit_eq (fun j => ?_)
      unfold pt
      rw [sfl_tb, Nat.zero_testBit]
      by_cases f : a j < K
      · simp [f, show ¬ a j = K by omega]
      · simp [f]
    have hr2 : rs (fun l => if a l < K then a l else K + 1) s (K + 1) m = rs a s K m := by
      refine Nat.eq_of_testBit_eq (fun j => ?_)
      unfold rs
      rw [sfl_tb, sfl_tb]
      by_cases f : a j < K
      · simp [f, show ¬ K + 1 ≤ a j by omega, show ¬ K ≤ a j by omega]
      · simp [f, show K ≤ a j by omega]
    unfold vsum
    rw [hpK, hw0, hr2, vsum_congr K hpt, s3]
    omega
/-- what is learnt in class k if those places' learners come -/
def iN (S : Sch) (P : Pln) (tc : Int32) (ω : Nat → Nat) (n0 k p : Nat) : Nat := if P.2 k 1 = tc then 0 else togN S (P.2 k) (sN P k ||| LO ω p n0)
def iOk (S : Sch) (P : Pln) (tc : Int32) (ω : Nat → Nat) (n0 k p : Nat) : Prop := k < P.1 ∧ p < 2 ^ n0 ∧ okI S P tc ω n0 k p
theorem okI_0 {S : Sch} {P : Pln} {tc : Int32} {ω : Nat → Nat} {n0 k : Nat} : okI S P tc ω n0 k 0 := ⟨fun _ => rfl, fun _ => ⟨Or.inl rfl, fun i _ hb => by rw [Nat.zero_testBit] at hb; cases hb⟩⟩
theorem iN_le {S : Sch} {P : Pln} {tc : Int32} {ω : Nat → Nat} {n0 k p : Nat} (hw : wS S) (hgo : goP S P) (hk : k < P.1) (hω : ∀ i, i < n0 → ω i < S.1) : iN S P tc ω n0 k p ≤ 5049 := by
  have hp : 2 ^ S.1 ≤ 2 ^ 16 := Nat.pow_le_pow_right (by decide) hw.1
  unfold iN
  split
  · omega
  · have := Nat.or_lt_two_pow (sN_eq hw.1 hgo hk).2 (LO_lt (ω := ω) (p := p) n0 hω)
    exact (tog_N hw _ (by omega)).2
/-- the class's table behind all classes -/
theorem without_sp {S : Sch} {P : Pln} {tc : Int32} {ω : Nat → Nat} {m : Nat} {wo be we : Nat → Int32} (hw : wS S) (h6 : P.1 ≤ 6) (hgo : goP S P) (hn : (K_begin (nI m) wo).1 ≤ 8) (hω : ∀ i, i < (K_begin (nI m) wo).1 → (K_begin (nI m) wo).2 i = nI (ω i) ∧ ω i < S.1) : Sp (iOk S P tc ω (K_begin (nI m) wo).1) (fun k p => (iN S P tc ω (K_begin (nI m) wo).1 k p : Int)) (fun _ => 0) (K_begin (nI m) wo).1 P.1 (fo (F_without_37 S P tc (nI m) wo be we) P.1 0 (fo (F_without_9 S P tc (nI m) wo be we) (2 ^ ((K_begin (nI m) wo).1)) 0 be, we)).1 := by
  have h16 := hw.1
  have hp2 : 2 ^ S.1 ≤ 2 ^ 16 := Nat.pow_le_pow_right (by decide) h16
  generalize hN : (K_begin (nI m) wo).1 = n0 at hn hω ⊢
  have hp8 : 2 ^ n0 ≤ 2 ^ 8 := Nat.pow_le_pow_right (by decide) hn
  have hb : ∀ k p, iOk S P tc ω n0 k p → -196605 ≤ (iN S P tc ω n0 k p : Int) ∧ (iN S P tc ω n0 k p : Int) ≤ 330891264 := by
    intro k p h
    have := iN_le (S := S) (P := P) (tc := tc) (ω := ω) (n0 := n0) (k := k) (p := p) hw hgo h.1 (fun i hi => (hω i hi).2)
    omega
  have h := fo_inv (F := F_without_37 S P tc (nI m) wo be we) (fun K z => K ≤ P.1 → Sp (iOk S P tc ω n0) (fun k p => (iN S P tc ω n0 k p : Int)) (fun _ => 0) n0 K z.1) P.1 0 (fo (F_without_9 S P tc (nI m) wo be we) (2 ^ n0) 0 be, we) (fun _ => by
    refine Sp_zero (fun s hs => ?_)
    have e := fo_updv (F := F_without_9 S P tc (nI m) wo be we) (v := fun _ => 0) (N := 2 ^ n0) (fun k z _ => rfl) be s hs
    show ((fo (F_without_9 S P tc (nI m) wo be we) (2 ^ n0) 0 be) s).toInt = 0
    rw [e]
    rfl) (fun j z _ hj hz _ => by
    have hj : j < P.1 := by omega
    unfold F_without_37
    by_cases ct : P.2 j 1 = tc
    · have ct' : (P.2 j) 1 = tc := ct
      rw [if_pos ct']
      exact Sp_skip (fun p h => h.2.2.1 ct) ⟨hj, Nat.two_pow_pos _, okI_0⟩ (by unfold iN; rw [if_pos ct]; rfl) (hz (by omega))
    · have ct' : ¬ (P.2 j) 1 = tc := ct
      rw [if_neg ct', hN]
      have hwe : ∀ p, p < 2 ^ n0 → fo (F_without_67 S P tc (nI m) wo be we j z) (2 ^ n0) 0 z.2 p = if (K_mayCome n0 (K_begin (nI m) wo).2 S (P.2 j) (nI p)) = (0 : Int32) then (-1000000000 : Int32) else (K_tog S (P.2 j) (((P.2 j) 5) ||| (K_lOf n0 (K_begin (nI m) wo).2 (nI p)))) := fo_updv (fun k z _ => by
        unfold F_without_67
        rw [hN]
        split <;> rfl) z.2
      refine Sp_succ (be := z.1) (we := fo (F_without_67 S P tc (nI m) wo be we j z) (2 ^ n0) 0 z.2) (by omega) hb (fun p => by decide) ⟨hj, Nat.two_pow_pos _, okI_0⟩ (fun p hpl => ?_) (give_spec hn).1 (hz (by omega))
      rw [hwe p hpl]
      have hms := mayCome_iff (S := S) (P := P) (tc := tc) (wo := (K_begin (nI m) wo).2) (ω := ω) h16 hgo hj hn hpl (fun i hi => (hω i hi).1) ct
      constructor
      · rintro ⟨-, -, ho⟩
        rw [if_neg (fun c => hms.mp c ho)]
        obtain ⟨s1, s2⟩ := sN_eq h16 hgo hj
        have hl : LO ω p n0 < 2 ^ S.1 := LO_lt n0 (fun i hi => (hω i hi).2)
        have e : K_tog S (P.2 j) (((P.2 j) 5) ||| (K_lOf n0 (K_begin (nI m) wo).2 (nI p))) = nI (togN S (P.2 j) (sN P j ||| LO ω p n0)) := by
          have s1' : (P.2 j) 5 = nI (sN P j) := s1
          rw [lOf_nI hn (by omega) (fun i hi => ⟨(hω i hi).1, by have := (hω i hi).2; omega⟩), s1', or_nI (by omega) (by omega)]
          exact (tog_N hw _ (by have := Nat.or_lt_two_pow s2 hl; omega)).1
        have e2 : iN S P tc ω n0 j p = togN S (P.2 j) (sN P j ||| LO ω p n0) := by
          unfold iN
          rw [if_neg ct]
        have hle := iN_le (S := S) (P := P) (tc := tc) (ω := ω) (n0 := n0) (k := j) (p := p) hw hgo hj (fun i hi => (hω i hi).2)
        rw [e, e2]
        rw [e2] at hle
        refine ⟨nI_toInt (by omega), fun c => ?_⟩
        have := congrArg Int32.toInt c
        rw [nI_toInt (by omega), show (-1000000000 : Int32).toInt = -1000000000 from by decide] at this
        omega
      · intro ho
        rw [if_pos (hms.mpr (fun c => ho ⟨hj, hpl, c⟩))])
  rw [Nat.zero_add] at h
  exact h (Nat.le_refl _)
/-- the whole number of a row -/
def iS (S : Sch) (P : Pln) (tc : Int32) (ω : Nat → Nat) (n0 : Nat) (f : Nat → Nat) : Nat → Nat
  | 0 => 0
  | K + 1 => iS S P tc ω n0 f K + iN S P tc ω n0 K (f K)
theorem iS_vsum {S : Sch} {P : Pln} {tc : Int32} {ω : Nat → Nat} {n0 m s : Nat} {a : Nat → Nat} : ∀ K, vsum (fun k p => (iN S P tc ω n0 k p : Int)) a s m K = (iS S P tc ω n0 (fun k => pt a s k m) K : Int) := by
  intro K
  induction K with
  | zero => rfl
  | succ K ih =>
    show vsum (fun k p => (iN S P tc ω n0 k p : Int)) a s m K + (iN S P tc ω n0 K (pt a s K m) : Int) = ((iS S P tc ω n0 (fun k => pt a s k m) K + iN S P tc ω n0 K (pt a s K m) : Nat) : Int)
    rw [ih]
    omega
theorem iS_le {S : Sch} {P : Pln} {tc : Int32} {ω : Nat → Nat} {n0 : Nat} {f : Nat → Nat} (hw : wS S) (hgo : goP S P) (hω : ∀ i, i < n0 → ω i < S.1) : ∀ K, K ≤ P.1 → iS S P tc ω n0 f K ≤ 5049 * K := by
  intro K
  induction K with
  | zero => intro _; exact Nat.le_refl _
  | succ K ih =>
    intro h
    have h1 := ih (by omega)
    have h2 := iN_le (S := S) (P := P) (tc := tc) (ω := ω) (n0 := n0) (k := K) (p := f K) hw hgo (by omega) hω
    show iS S P tc ω n0 f K + iN S P tc ω n0 K (f K) ≤ _
    omega
theorem iS_congr {S : Sch} {P : Pln} {tc : Int32} {ω : Nat → Nat} {n0 : Nat} {f h : Nat → Nat} : ∀ K, (∀ k, k < K → f k = h k) → iS S P tc ω n0 f K = iS S P tc ω n0 h K := by
  intro K
  induction K with
  | zero => intro _; rfl
  | succ K ih =>
    intro e
    show iS S P tc ω n0 f K + _ = iS S P tc ω n0 h K + _
    rw [ih (fun k hk => e k (by omega)), e K (by omega)]
/-- the row that spreads so -/
theorem row_of (n n0 : Nat) (a : Nat → Nat) : ∃ r, r < (n + 1) ^ n0 ∧ ∀ k, k < n → Qk n r k n0 = pt a (2 ^ n0 - 1) k n0 := by
  refine ⟨nr n (fun l => a (n0 - 1 - l)) n0, nr_lt _ _ _, fun k hk => ptF_eq (fun j => ?_)⟩
  rw [Qk_tb]
  have e : j < n0 → de n (nr n (fun l => a (n0 - 1 - l)) n0) j = min (a j) n := by
    intro h
    have := dg_nr n (fun l => a (n0 - 1 - l)) n0 (n0 - 1 - j) (by omega)
    unfold dg at this
    rw [show n0 - 1 - (n0 - 1 - j) = j by omega] at this
    exact this
  constructor
  · rintro ⟨u, v⟩
    rw [e u] at v
    exact ⟨u, by omega⟩
  · rintro ⟨u, v⟩
    refine ⟨u, ?_⟩
    rw [e u]
    omega
theorem ill_val {S : Sch} {P : Pln} {tc : Int32} {ω : Nat → Nat} {n0 : Nat} {f : Nat → Nat} {vt : Nat → Int32} (hw : wS S) (hgo : goP S P) (hω : ∀ i, i < n0 → ω i < S.1) (ho : ∀ k, k < P.1 → okI S P tc ω n0 k (f k)) (hv : ∀ k, k < P.1 → vt k = nI (bas P tc k ||| LO ω (f k) n0)) : K_m_ltried S P vt = nI (iS S P tc ω n0 f P.1) := by
  have hp2 : 2 ^ S.1 ≤ 2 ^ 16 := Nat.pow_le_pow_right (by decide) hw.1
  unfold K_m_ltried
  have h := fo_inv (F := F_m_ltried_6 S P vt) (fun i z => i ≤ P.1 → z = nI (iS S P tc ω n0 f i)) P.1 0 0 (fun _ => rfl) (fun k z _ hk hz _ => by
    have hk : k < P.1 := by omega
    unfold F_m_ltried_6
    rw [hz (by omega), hv k hk]
    have e : K_tog S (P.2 k) (nI (bas P tc k ||| LO ω (f k) n0)) = nI (iN S P tc ω n0 k (f k)) := by
      unfold iN bas
      by_cases c : P.2 k 1 = tc
      · have hl0 : LO ω 0 n0 = 0 := by
          refine Nat.eq_of_testBit_eq (fun j => ?_)
          rw [Nat.zero_testBit]
          cases d : (LO ω 0 n0).testBit j with
          | false => rfl
          | true =>
            obtain ⟨i, -, b, -⟩ := (LO_tb n0).mp d
            rw [Nat.zero_testBit] at b
            cases b
        rw [if_pos c, if_pos c, (ho k hk).1 c, hl0, Nat.or_zero]
        exact tog_none hw _
      · rw [if_neg c, if_neg c]
        exact (tog_N hw _ (by have := Nat.or_lt_two_pow (sN_eq hw.1 hgo hk).2 (LO_lt (ω := ω) (p := f k) n0 hω); omega)).1
    rw [e, nI_add]
    rfl)
  rw [Nat.zero_add] at h
  exact h (Nat.le_refl _)
theorem ill_run {S : Sch} {P : Pln} {tc : Int32} {g vl vt G : Nat → Int32} {F : Nat → (Int32 × (Nat → Int32)) → (Int32 × (Nat → Int32))} (hw : wS S) (h6 : P.1 ≤ 6) (hgo : goP S P) (hl6 : bcn (lst S P tc) S.1 ≤ 6) (hF : ∀ k z, F k z = if ((K_m_spreads S P tc k (bcn (lst S P tc) S.1) G (K_m_loses S P tc g vl).2 z.2).1) = (0 : Int32) then (z.1, (K_m_spreads S P tc k (bcn (lst S P tc) S.1) G (K_m_loses S P tc g vl).2 z.2).2) else (if z.1 < (K_m_ltried S P ((K_m_spreads S P tc k (bcn (lst S P tc) S.1) G (K_m_loses S P tc g vl).2 z.2).2)) then (K_m_ltried S P ((K_m_spreads S P tc k (bcn (lst S P tc) S.1) G (K_m_loses S P tc g vl).2 z.2).2), (K_m_spreads S P tc k (bcn (lst S P tc) S.1) G (K_m_loses S P tc g vl).2 z.2).2) else (z.1, (K_m_spreads S P tc k (bcn (lst S P tc) S.1) G (K_m_loses S P tc g vl).2 z.2).2))) :
    ∃ M, M ≤ 30294 ∧ (fo F ((P.1 + 1) ^ bcn (lst S P tc) S.1) 0 ((0 : Int32), vt)).1 = nI M ∧ (∀ r, r < (P.1 + 1) ^ bcn (lst S P tc) S.1 → (∀ k, k < P.1 → okI S P tc (lω S P tc g vl) (bcn (lst S P tc) S.1) k (Qk P.1 r k (bcn (lst S P tc) S.1))) → iS S P tc (lω S P tc g vl) (bcn (lst S P tc) S.1) (fun k => Qk P.1 r k (bcn (lst S P tc) S.1)) P.1 ≤ M) ∧ (M = 0 ∨ ∃ r, r < (P.1 + 1) ^ bcn (lst S P tc) S.1 ∧ (∀ k, k < P.1 → okI S P tc (lω S P tc g vl) (bcn (lst S P tc) S.1) k (Qk P.1 r k (bcn (lst S P tc) S.1))) ∧ M = iS S P tc (lω S P tc g vl) (bcn (lst S P tc) S.1) (fun k => Qk P.1 r k (bcn (lst S P tc) S.1)) P.1) := by
  have hways := ways_le h6 hl6
  have hωb : ∀ i, i < bcn (lst S P tc) S.1 → lω S P tc g vl i < S.1 := fun i hi => (lω_at hw.1 hgo hi).1
  have h := fo_inv (F := F) (fun i z => ∃ M, M ≤ 30294 ∧ z.1 = nI M ∧ (∀ r, r < i → (∀ k, k < P.1 → okI S P tc (lω S P tc g vl) (bcn (lst S P tc) S.1) k (Qk P.1 r k (bcn (lst S P tc) S.1))) → iS S P tc (lω S P tc g vl) (bcn (lst S P tc) S.1) (fun k => Qk P.1 r k (bcn (lst S P tc) S.1)) P.1 ≤ M) ∧ (M = 0 ∨ ∃ r, r < i ∧ (∀ k, k < P.1 → okI S P tc (lω S P tc g vl) (bcn (lst S P tc) S.1) k (Qk P.1 r k (bcn (lst S P tc) S.1))) ∧ M = iS S P tc (lω S P tc g vl) (bcn (lst S P tc) S.1) (fun k => Qk P.1 r k (bcn (lst S P tc) S.1)) P.1)) ((P.1 + 1) ^ bcn (lst S P tc) S.1) 0 ((0 : Int32), vt) ⟨0, by omega, rfl, fun r h => absurd h (Nat.not_lt_zero _), Or.inl rfl⟩ (fun j z _ hj hz => by
    obtain ⟨M, m0, m1, m2, m3⟩ := hz
    rw [hF]
    rcases ill_sem (g := g) (vl := vl) (vt := z.2) (G := G) (tc := tc) (r0 := j) hw.1 h6 hgo hl6 (by omega) with ⟨a1, a2⟩ | ⟨a1, a2, a3⟩
    · rw [if_pos a1]
      refine ⟨M, m0, m1, fun r hr ho => ?_, m3.imp id (fun ⟨r, b1, b2⟩ => ⟨r, by omega, b2⟩)⟩
      by_cases e : r = j
      · subst e; exact absurd ho a2
      · exact m2 r (by omega) ho
    · rw [if_neg (by rw [a1]; decide), ill_val (ω := lω S P tc g vl) (f := fun k => Qk P.1 j k (bcn (lst S P tc) S.1)) hw hgo hωb a2 a3]
      have hle := iS_le (S := S) (P := P) (tc := tc) (f := fun k => Qk P.1 j k (bcn (lst S P tc) S.1)) hw hgo hωb P.1 (Nat.le_refl _)
      have hlt : z.1 < nI (iS S P tc (lω S P tc g vl) (bcn (lst S P tc) S.1) (fun k => Qk P.1 j k (bcn (lst S P tc) S.1)) P.1) ↔ M < iS S P tc (lω S P tc g vl) (bcn (lst S P tc) S.1) (fun k => Qk P.1 j k (bcn (lst S P tc) S.1)) P.1 := by
        rw [m1]
        exact nI_lt_iff (by omega) (by omega)
      by_cases c : M < iS S P tc (lω S P tc g vl) (bcn (lst S P tc) S.1) (fun k => Qk P.1 j k (bcn (lst S P tc) S.1)) P.1
      · rw [if_pos (hlt.mpr c)]
        refine ⟨_, by omega, rfl, fun r hr ho => ?_, Or.inr ⟨j, by omega, a2, rfl⟩⟩
        by_cases e : r = j
        · subst e; exact Nat.le_refl _
        · have := m2 r (by omega) ho
          omega
      · rw [if_neg (fun h => c (hlt.mp h))]
        refine ⟨M, m0, m1, fun r hr ho => ?_, m3.imp id (fun ⟨r, b1, b2⟩ => ⟨r, by omega, b2⟩)⟩
        by_cases e : r = j
        · subst e; omega
        · exact m2 r (by omega) ho)
  rw [Nat.zero_add] at h
  exact h
theorem ill_eq {T : Tol} {i j t n0 : Nat} {wo be we g vl vt vr : Nat → Int32} (hw : wS (tS T i)) (hwP : wP (tP T j)) (hgo : goP (tS T i) (tP T j)) : (K_ill T i j t n0 wo be we).1 = (K_m_ill T i j t g vl vt vr).1 := by
  have h16 := hw.1
  have h6 := hwP.1
  have hp2 : 2 ^ (tS T i).1 ≤ 2 ^ 16 := Nat.pow_le_pow_right (by decide) h16
  have hll := @lst_lt (tS T i) (tP T j) (nI t)
  have hbl := @bcn_leN (lst (tS T i) (tP T j) (nI t)) (tS T i).1
  have hmv := moved_eq (tc := nI t) h16 hgo
  have hbc : K_bc (nI (lst (tS T i) (tP T j) (nI t))) = nI (bcn (lst (tS T i) (tP T j) (nI t)) (tS T i).1) := by
    rw [bc_nI (by omega), pop_bcn, bcn_top hll 17 (by omega)]
  have hlo := (loses_sem (tc := nI t) (g := g) (vl := vl) h16 hgo).1
  unfold K_ill K_m_ill
  rw [hmv, hbc, hlo]
  by_cases c : (6 : Int32) < nI (bcn (lst (tS T i) (tP T j) (nI t)) (tS T i).1)
  · rw [if_pos c, if_pos c]
  · rw [if_neg c, if_neg c]
    have hl6 : bcn (lst (tS T i) (tP T j) (nI t)) (tS T i).1 ≤ 6 := Nat.le_of_not_lt (fun h => c ((nI_lt_iff (a := 6) (by omega) (by omega)).mpr h))
    obtain ⟨M, m0, m1, m2, m3⟩ := ill_run (F := F_m_ill_98 T i j t g vl vt vr) (g := g) (vl := vl) (vt := vt) (G := (K_m_loses (tS T i) (tP T j) (nI t) g vl).1) hw h6 hgo hl6 (fun _ _ => rfl)
    have e16 : bcn (lst (tS T i) (tP T j) (nI t)) 16 = bcn (lst (tS T i) (tP T j) (nI t)) (tS T i).1 := bcn_top hll 16 h16
    obtain ⟨b1, b2⟩ := begin_spec (m := lst (tS T i) (tP T j) (nI t)) (wo := wo) (by omega) (by omega)
    rw [e16] at b1
    have hωb : ∀ i', i' < bcn (lst (tS T i) (tP T j) (nI t)) (tS T i).1 → lω (tS T i) (tP T j) (nI t) g vl i' < (tS T i).1 := fun i' hi => (lω_at h16 hgo hi).1
    have hsp := without_sp (tc := nI t) (ω := lω (tS T i) (tP T j) (nI t) g vl) (m := lst (tS T i) (tP T j) (nI t)) (wo := wo) (be := be) (we := we) hw h6 hgo (by rw [b1]; omega) (fun i' hi => by
      rw [b1] at hi
      obtain ⟨w1, w2, w3⟩ := lω_at (g := g) (vl := vl) h16 hgo hi
      have := b2 (lω (tS T i) (tP T j) (nI t) g vl i') (by omega) w2
      rw [w3] at this
      exact ⟨this, w1⟩)
    show (fo (F_without_37 (tS T i) (tP T j) (nI t) (nI (lst (tS T i) (tP T j) (nI t))) wo be we) (tP T j).1 0 (fo (F_without_9 (tS T i) (tP T j) (nI t) (nI (lst (tS T i) (tP T j) (nI t))) wo be we) (2 ^ ((K_begin (nI (lst (tS T i) (tP T j) (nI t))) wo).1)) 0 be, we)).1 ((2 ^ ((K_begin (nI (lst (tS T i) (tP T j) (nI t))) wo).1)) - 1) = (fo (F_m_ill_98 T i j t g vl vt vr) (((tP T j).1 + 1) ^ (bcn (lst (tS T i) (tP T j) (nI t)) (tS T i).1)) 0 ((0 : Int32), vt)).1
    rw [m1]
    generalize fo (F_without_37 (tS T i) (tP T j) (nI t) (nI (lst (tS T i) (tP T j) (nI t))) wo be we) (tP T j).1 0 (fo (F_without_9 (tS T i) (tP T j) (nI t) (nI (lst (tS T i) (tP T j) (nI t))) wo be we) (2 ^ ((K_begin (nI (lst (tS T i) (tP T j) (nI t))) wo).1)) 0 be, we) = z at hsp ⊢
    rw [b1] at hsp ⊢
    have hpos := Nat.two_pow_pos (bcn (lst (tS T i) (tP T j) (nI t)) (tS T i).1)
    obtain ⟨s1, a, s2, s3⟩ := hsp _ (show 2 ^ bcn (lst (tS T i) (tP T j) (nI t)) (tS T i).1 - 1 < 2 ^ bcn (lst (tS T i) (tP T j) (nI t)) (tS T i).1 by omega)
    rw [iS_vsum] at s3
    replace s3 := s3.trans (Int.add_zero _)
    obtain ⟨r, r1, r2⟩ := row_of (tP T j).1 (bcn (lst (tS T i) (tP T j) (nI t)) (tS T i).1) a
    have u1 := m2 r r1 (fun k hk => by rw [r2 k hk]; exact (s2 k hk).2.2)
    rw [iS_congr _ r2] at u1
    refine Int32.toInt_inj.mp ?_
    rw [s3, nI_toInt (by omega)]
    rcases m3 with m3 | ⟨r', q1, q2, q3⟩
    · omega
    · have v1 := s1 (de (tP T j).1 r') (fun k hk => ⟨hk, pt_lt, q2 k hk⟩)
      rw [iS_vsum, s3] at v1
      replace v1 := Int.le_trans (Int.le_of_eq (Int.add_zero _).symm) v1
      have v2 : iS (tS T i) (tP T j) (nI t) (lω (tS T i) (tP T j) (nI t) g vl) (bcn (lst (tS T i) (tP T j) (nI t)) (tS T i).1) (fun k => pt (de (tP T j).1 r') (2 ^ bcn (lst (tS T i) (tP T j) (nI t)) (tS T i).1 - 1) k (bcn (lst (tS T i) (tP T j) (nI t)) (tS T i).1)) (tP T j).1 = M := q3.symm
      rw [v2] at v1
      omega
end
