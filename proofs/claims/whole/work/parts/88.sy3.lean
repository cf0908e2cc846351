/-! What is most, over all ways to share a set out among classes. -/
noncomputable section
def pt (a : Nat → Nat) (s k m : Nat) : Nat := sfl (fun l => s.testBit l && decide (a l = k)) m
def rs (a : Nat → Nat) (s K m : Nat) : Nat := sfl (fun l => s.testBit l && decide (K ≤ a l)) m
def vsum (wv : Nat → Nat → Int) (a : Nat → Nat) (s m : Nat) : Nat → Int
  | 0 => 0
  | K + 1 => vsum wv a s m K + wv K (pt a s K m)
def okA (ok : Nat → Nat → Prop) (a : Nat → Nat) (s m K : Nat) : Prop := ∀ k, k < K → ok k (pt a s k m)
def Sp (ok : Nat → Nat → Prop) (wv : Nat → Nat → Int) (h0 : Nat → Int) (m K : Nat) (be : Nat → Int32) : Prop := ∀ s, s < 2 ^ m → (∀ a, okA ok a s m K → vsum wv a s m K + h0 (rs a s K m) ≤ (be s).toInt) ∧ ∃ a, okA ok a s m K ∧ (be s).toInt = vsum wv a s m K + h0 (rs a s K m)
theorem pt_sub {a : Nat → Nat} {s k m : Nat} : pt a s k m &&& s = pt a s k m := by
  refine Nat.eq_of_testBit_eq (fun j => ?_)
  unfold pt
  rw [Nat.testBit_and, sfl_tb]
  cases s.testBit j <;> simp
theorem rs_zero {a : Nat → Nat} {s m : Nat} (hs : s < 2 ^ m) : rs a s 0 m = s := by
  refine Nat.eq_of_testBit_eq (fun j => ?_)
  unfold rs
  rw [sfl_tb]
  by_cases h : s.testBit j = true
  · have := tb_lt hs h
    simp [h, this]
  · simp [h]
theorem vsum_bd {ok : Nat → Nat → Prop} {wv : Nat → Nat → Int} {a : Nat → Nat} {s m : Nat} (hb : ∀ k p, ok k p → -196605 ≤ wv k p ∧ wv k p ≤ 330891264) : ∀ K : Nat, okA ok a s m K → -196605 * (K : Int) ≤ vsum wv a s m K ∧ vsum wv a s m K ≤ 330891264 * (K : Int) := by
  intro K
  induction K with
  | zero => intro _; unfold vsum; omega
  | succ K ih =>
    intro h
    have h1 := ih (fun k hk => h k (by omega))
    have h2 := hb K _ (h K (by omega))
    unfold vsum
    omega
theorem vsum_congr {wv : Nat → Nat → Int} {a a' : Nat → Nat} {s s' m : Nat} : ∀ K : Nat, (∀ k, k < K → pt a s k m = pt a' s' k m) → vsum wv a s m K = vsum wv a' s' m K := by
  intro K
  induction K with
  | zero => intro _; rfl
  | succ K ih =>
    intro h
    unfold vsum
    rw [ih (fun k hk => h k (by omega)), h K (by omega)]
theorem addI {x y : Int32} (h1 : -2147483648 ≤ x.toInt + y.toInt) (h2 : x.toInt + y.toInt ≤ 2147483647) : (x + y).toInt = x.toInt + y.toInt := by
  rw [Int32.toInt_add]
  exact Int.bmod_eq_of_le (by omega) (by omega)
theorem Sp_bd {ok : Nat → Nat → Prop} {wv : Nat → Nat → Int} {h0 : Nat → Int} {m K : Nat} {be : Nat → Int32} (hb : ∀ k p, ok k p → -196605 ≤ wv k p ∧ wv k p ≤ 330891264) (hh : ∀ p, -196605 ≤ h0 p ∧ h0 p ≤ 0) (hS : Sp ok wv h0 m K be) {s : Nat} (hs : s < 2 ^ m) : -196605 * ((K : Int) + 1) ≤ (be s).toInt ∧ (be s).toInt ≤ 330891264 * (K : Int) := by
  obtain ⟨-, a, h1, h2⟩ := hS s hs
  have h3 := vsum_bd hb K h1
  have h4 := hh (rs a s K m)
  omega
theorem Sp_zero {ok : Nat → Nat → Prop} {wv : Nat → Nat → Int} {h0 : Nat → Int} {m : Nat} {be : Nat → Int32} (h : ∀ s, s < 2 ^ m → (be s).toInt = h0 s) : Sp ok wv h0 m 0 be := by
  intro s hs
  have e : ∀ a, vsum wv a s m 0 + h0 (rs a s 0 m) = (be s).toInt := fun a => by rw [rs_zero hs, h s hs]; exact Int.zero_add _
  exact ⟨fun a _ => by rw [e]; exact Int.le_refl _, fun _ => 0, fun k hk => by omega, (e _).symm⟩
theorem Sp_succ {ok : Nat → Nat → Prop} {wv : Nat → Nat → Int} {h0 : Nat → Int} {m K : Nat} {be we be' : Nat → Int32} (hK : K + 1 ≤ 6) (hb : ∀ k p, ok k p → -196605 ≤ wv k p ∧ wv k p ≤ 330891264) (hh : ∀ p, -196605 ≤ h0 p ∧ h0 p ≤ 0) (hok0 : ok K 0)
    (hwe : ∀ p, p < 2 ^ m → (ok K p → (we p).toInt = wv K p ∧ ¬ we p = -1000000000) ∧ (¬ ok K p → we p = -1000000000)) (hG : ∀ s, s < 2 ^ m → isG be we s (be' s)) (hS : Sp ok wv h0 m K be) : Sp ok wv h0 m (K + 1) be' := by
  intro s hs
  obtain ⟨g1, g2⟩ := hG s hs
  have hadd : ∀ p, p &&& s = p → ok K p → (we p + be (s ^^^ (s &&& p))).toInt = wv K p + (be (s ^^^ (s &&& p))).toInt := by
    intro p hp ho
    have h1 := ((hwe p (sub_ltP hp hs)).1 ho).1
    have h2 := Sp_bd hb hh hS (s := s ^^^ (s &&& p)) (Nat.lt_of_le_of_lt msk_le hs)
    have h3 := hb K p ho
    rw [addI (by rw [h1]; omega) (by rw [h1]; omega), h1]
  refine ⟨fun a ha => ?_, ?_⟩
  · have ho := ha K (by omega)
    have hp : pt a s K m &&& s = pt a s K m := pt_sub
    have hle := g1 (pt a s K m) hp ((hwe _ (sub_ltP hp hs)).1 ho).2
    rw [le_toInt, hadd _ hp ho] at hle
    have hs' : s ^^^ (s &&& pt a s K m) < 2 ^ m := Nat.lt_of_le_of_lt msk_le hs
    have ept : ∀ k, k < K → pt a (s ^^^ (s &&& pt a s K m)) k m = pt a s k m := by
      intro k hk
      refine Nat.eq_of_testBit_eq (fun j => ?_)
      unfold pt
      simp only [sfl_tb, Nat.testBit_xor, Nat.testBit_and]
      by_cases e : a j = k
      · have e2 : ¬ a j = K := by omega
        simp [e, show ¬ k = K by omega]
      · simp [e]
    have ers : rs a (s ^^^ (s &&& pt a s K m)) K m = rs a s (K + 1) m := by
      refine Nat.eq_of_testBit_eq (fun j => ?_)
      unfold rs pt
      simp only [sfl_tb, Nat.testBit_xor, Nat.testBit_and]
      by_cases c : j < m
      · by_cases e : a j = K
        · simp [e, c]
        · by_cases f : K ≤ a j
          · simp [e, c, f, show K + 1 ≤ a j by omega]
          · simp [e, c, f, show ¬ K + 1 ≤ a j by omega]
      · simp [c]
    have h1 := (hS _ hs').1 a (fun k hk => by rw [ept k hk]; exact ha k (by omega))
    rw [vsum_congr K ept, ers] at h1
    unfold vsum
    omega
  · rcases g2 with e | ⟨p, hp, hw, e⟩
    · have h0' := g1 0 (Nat.zero_and _) ((hwe 0 (Nat.two_pow_pos m)).1 hok0).2
      rw [e, le_toInt, hadd 0 (Nat.zero_and _) hok0] at h0'
      have h2 := Sp_bd hb hh hS (s := s ^^^ (s &&& 0)) (Nat.lt_of_le_of_lt msk_le hs)
      have h3 := hb K 0 hok0
      rw [show (-1000000000 : Int32).toInt = -1000000000 from by decide] at h0'
      omega
    · have hpm := sub_ltP hp hs
      have ho : ok K p := Classical.byContradiction (fun c => hw ((hwe p hpm).2 c))
      have hs' : s ^^^ (s &&& p) < 2 ^ m := Nat.lt_of_le_of_lt msk_le hs
      obtain ⟨-, a', ha', e'⟩ := hS _ hs'
      have hps : ∀ j, p.testBit j = true → s.testBit j = true := fun j hj => by
        rw [← hp, Nat.testBit_and] at hj
        simp at hj
        exact hj.2
      have eK : pt (fun l => if p.testBit l = true then K else if a' l < K then a' l else K + 1) s K m = p := by
        refine Nat.eq_of_testBit_eq (fun j => ?_)
        unfold pt
        rw [sfl_tb]
        by_cases c : p.testBit j = true
        · simp [c, hps j c, tb_lt hpm c]
        · by_cases d : a' j < K
          · simp [c, d, show ¬ a' j = K by omega]
          · simp [c, d]
      have ek : ∀ k, k < K → pt (fun l => if p.testBit l = true then K else if a' l < K then a' l else K + 1) s k m = pt a' (s ^^^ (s &&& p)) k m := by
        intro k hk
        refine Nat.eq_of_testBit_eq (fun j => ?_)
        unfold pt
        simp only [sfl_tb, Nat.testBit_xor, Nat.testBit_and]
        by_cases c : p.testBit j = true
        · simp [c, hps j c, show ¬ K = k by omega]
        · by_cases d : a' j < K
          · simp [c, d]
          · simp [c, d, show ¬ K + 1 = k by omega, show ¬ a' j = k by omega]
      have er : rs (fun l => if p.testBit l = true then K else if a' l < K then a' l else K + 1) s (K + 1) m = rs a' (s ^^^ (s &&& p)) K m := by
        refine Nat.eq_of_testBit_eq (fun j => ?_)
        unfold rs
        simp only [sfl_tb, Nat.testBit_xor, Nat.testBit_and]
        by_cases c : p.testBit j = true
        · simp [c, hps j c]
        · by_cases d : a' j < K
          · simp [c, d, show ¬ K + 1 ≤ a' j by omega]
          · simp [c, d, show K ≤ a' j by omega]
      refine ⟨fun l => if p.testBit l = true then K else if a' l < K then a' l else K + 1, fun k hk => ?_, ?_⟩
      · by_cases c : k = K
        · subst c
          rw [eK]
          exact ho
        · rw [ek k (by omega)]
          exact ha' k (by omega)
      · unfold vsum
        rw [eK, er, vsum_congr K ek, e, hadd p hp ho, e']
        omega
end
