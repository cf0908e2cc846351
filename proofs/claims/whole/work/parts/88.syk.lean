/-! The line of a school (class): what its table holds. -/
noncomputable section
/-- n of them from place f on can be one class -/
def vld (S : Sch) (n0 f n : Nat) : Prop := (S.2.2 9 2).toNatClampNeg ≤ n ∧ n ≤ (S.2.2 9 3).toNatClampNeg ∧ f + n ≤ n0
/-- v is the most of n's that can be -/
def isM1 (S : Sch) (n0 f : Nat) (w : Nat → Int32) (v : Int32) : Prop := -1 ≤ v.toInt ∧ (∀ n, vld S n0 f n → w n ≤ v) ∧ (v = -1 ∨ ∃ n, vld S n0 f n ∧ v = w n)
theorem fill_in {S : Sch} {n0 k0 k f : Nat} {wo be z z' : Nat → Int32} (hw : wS S) (hn0 : n0 ≤ 16) (hf : f ≤ n0) : ∃ v, Sum.elim (fun (zx : Int32) => (upd z' (k * 17 + f) zx)) (fun (rx : Int32) => (upd z' (k * 17 + f) rx)) (fe (F_fill_71 S n0 k0 wo be k z f z') (((S.2.2 9 3).toNatClampNeg + 1) - ((S.2.2 9 2).toNatClampNeg)) ((S.2.2 9 2).toNatClampNeg) (-1 : Int32)) = upd z' (k * 17 + f) v ∧ isM1 S n0 f (fun n => K_with wo z' k f n) v := by
  obtain ⟨hle, hle1, hle2⟩ := le_cl hw
  obtain ⟨hmo, hmo1, hmo2, hlm⟩ := mo_cl hw
  have m1 : (-1 : Int32).toInt = -1 := by decide
  have h := fe_inv (F := F_fill_71 S n0 k0 wo be k z f z') (fun i v => -1 ≤ v.toInt ∧ (∀ n, vld S n0 f n → n < i → K_with wo z' k f n ≤ v) ∧ (v = -1 ∨ ∃ n, vld S n0 f n ∧ v = K_with wo z' k f n)) (fun v => isM1 S n0 f (fun n => K_with wo z' k f n) v) (((S.2.2 9 3).toNatClampNeg + 1) - ((S.2.2 9 2).toNatClampNeg)) ((S.2.2 9 2).toNatClampNeg) (-1 : Int32) ⟨by rw [m1]; exact Int.le_refl _, fun n hn hl => by have := hn.1; omega, Or.inl rfl⟩ (fun n v h1 h2 hv => by
    obtain ⟨v1, v2, v3⟩ := hv
    have hlt : nI n0 < nI f + nI n ↔ n0 < f + n := by rw [nI_add]; exact nI_lt_iff (by omega) (by omega)
    unfold F_fill_71
    by_cases c : n0 < f + n
    · rw [if_pos (hlt.mpr c)]
      refine ⟨fun z' e => (by cases e), fun r e => ?_⟩
      cases e
      exact ⟨v1, fun m hm => v2 m hm (by have := hm.2.2; omega), v3⟩
    · rw [if_neg (fun h => c (hlt.mp h))]
      refine ⟨fun z'' e => ?_, fun r e => (by cases e)⟩
      have hvn : vld S n0 f n := ⟨h1, by omega, by omega⟩
      have e := Sum.inl.inj e
      subst e
      by_cases d : v < K_with wo z' k f n
      · rw [if_pos d]
        have dl := le_of_ltI d
        refine ⟨?_, fun m hm hmn => ?_, Or.inr ⟨n, hvn, rfl⟩⟩
        · rw [le_toInt] at dl; omega
        · by_cases e : m = n
          · subst e; exact le_rf _
          · exact le_tr (v2 m hm (by omega)) dl
      · rw [if_neg d]
        refine ⟨v1, fun m hm hmn => ?_, v3⟩
        by_cases e : m = n
        · subst e; exact (lt_or_le _ _).resolve_left d
        · exact v2 m hm (by omega))
  generalize fe (F_fill_71 S n0 k0 wo be k z f z') (((S.2.2 9 3).toNatClampNeg + 1) - ((S.2.2 9 2).toNatClampNeg)) ((S.2.2 9 2).toNatClampNeg) (-1 : Int32) = s at h ⊢
  rcases s with a | a
  · obtain ⟨a1, a2, a3⟩ := h.1 a rfl
    exact ⟨a, rfl, a1, fun n hn => a2 n hn (by have := hn.1; have := hn.2.1; omega), a3⟩
  · exact ⟨a, rfl, h.2 a rfl⟩
theorem with_congr {wo b b' : Nat → Int32} {j f n : Nat} (h : b ((j - 1) * 17 + f + n) = b' ((j - 1) * 17 + f + n)) : K_with wo b j f n = K_with wo b' j f n := by
  unfold K_with
  rw [h]
theorem fill_sem {S : Sch} {n0 k0 : Nat} {wo be : Nat → Int32} (hw : wS S) (hn0 : n0 ≤ 16) (hk0 : k0 ≤ 6) : (∀ f, f ≤ n0 → K_fill S n0 k0 wo be f = if f = n0 then 0 else -1) ∧ ∀ j f, 1 ≤ j → j ≤ k0 → f ≤ n0 → isM1 S n0 f (fun n => K_with wo (K_fill S n0 k0 wo be) j f n) (K_fill S n0 k0 wo be (j * 17 + f)) := by
  have h0 : ∀ f, f < n0 + 1 → fo (F_fill_2 S n0 k0 wo be) (n0 + 1) 0 be f = if f = n0 then 0 else -1 := by
    intro f hf
    have e := fo_updv (F := F_fill_2 S n0 k0 wo be) (v := fun k => if nI k = nI n0 then (0 : Int32) else -1) (N := n0 + 1) (fun k z _ => by unfold F_fill_2; split <;> rfl) be f hf
    rw [e]
    by_cases c : f = n0
    · rw [if_pos c, if_pos (by rw [c])]
    · rw [if_neg c, if_neg (fun h => c (nI_injL (by omega) (by omega) h))]
  have inner : ∀ (k : Nat) (z : Nat → Int32), 1 ≤ k → (∀ q, q < k * 17 → fo (F_fill_51 S n0 k0 wo be k z) (n0 + 1) 0 z q = z q) ∧ ∀ f, f ≤ n0 → isM1 S n0 f (fun n => K_with wo z k f n) (fo (F_fill_51 S n0 k0 wo be k z) (n0 + 1) 0 z (k * 17 + f)) := by
    intro k z hk
    have h := fo_inv (F := F_fill_51 S n0 k0 wo be k z) (fun i z' => (∀ q, q < k * 17 → z' q = z q) ∧ ∀ f, f < i → isM1 S n0 f (fun n => K_with wo z k f n) (z' (k * 17 + f))) (n0 + 1) 0 z ⟨fun _ _ => rfl, fun f h => absurd h (Nat.not_lt_zero _)⟩ (fun f z' _ hf hz => by
      obtain ⟨z1, z2⟩ := hz
      obtain ⟨v, e, hv⟩ := fill_in (k0 := k0) (k := k) (wo := wo) (be := be) (z := z) (z' := z') hw hn0 (show f ≤ n0 by omega)
      unfold F_fill_51
      rw [e]
      refine ⟨fun q hq => by rw [pk_un (by omega)]; exact z1 q hq, fun f' hf' => ?_⟩
      by_cases c : f' = f
      · subst c
        rw [pk_us]
        obtain ⟨v1, v2, v3⟩ := hv
        have hc : ∀ n, vld S n0 f' n → K_with wo z' k f' n = K_with wo z k f' n := fun n hn => with_congr (z1 _ (by have := hn.2.2; omega))
        exact ⟨v1, fun n hn => by have h := v2 n hn; dsimp only at h ⊢; rw [← hc n hn]; exact h, v3.imp id (fun ⟨n, hn, q⟩ => ⟨n, hn, q.trans (hc n hn)⟩)⟩
      · rw [pk_un (by omega)]
        exact z2 f' (by omega))
    rw [Nat.zero_add] at h
    exact ⟨h.1, fun f hf => h.2 f (by omega)⟩
  have h := fo_inv (F := F_fill_37 S n0 k0 wo be) (fun k z => 1 ≤ k ∧ (∀ f, f ≤ n0 → z f = if f = n0 then 0 else -1) ∧ ∀ j f, 1 ≤ j → j < k → f ≤ n0 → isM1 S n0 f (fun n => K_with wo z j f n) (z (j * 17 + f))) (k0 + 1 - 1) 1 (fo (F_fill_2 S n0 k0 wo be) (n0 + 1) 0 be) ⟨Nat.le_refl _, fun f hf => h0 f (by omega), fun j f h1 h2 => by omega⟩ (fun k z hk1 _ hz => by
    obtain ⟨z0, z1, z2⟩ := hz
    obtain ⟨i1, i2⟩ := inner k z hk1
    unfold F_fill_37
    refine ⟨by omega, fun f hf => by rw [i1 f (by omega)]; exact z1 f hf, fun j f h1 h2 hf => ?_⟩
    have hc : ∀ n, vld S n0 f n → K_with wo (fo (F_fill_51 S n0 k0 wo be k z) (n0 + 1) 0 z) j f n = K_with wo z j f n := fun n hn => with_congr (i1 _ (by have := hn.2.2; omega))
    have base : isM1 S n0 f (fun n => K_with wo z j f n) (fo (F_fill_51 S n0 k0 wo be k z) (n0 + 1) 0 z (j * 17 + f)) := by
      by_cases c : j = k
      · subst c; exact i2 f hf
      · rw [i1 _ (by omega)]
        exact z2 j f h1 (by omega) hf
    obtain ⟨v1, v2, v3⟩ := base
    exact ⟨v1, fun n hn => by have h := v2 n hn; dsimp only at h ⊢; rw [hc n hn]; exact h, v3.imp id (fun ⟨n, hn, q⟩ => ⟨n, hn, q.trans (hc n hn).symm⟩)⟩)
  exact ⟨h.2.1, fun j f h1 h2 hf => h.2.2 j f h1 (by omega) hf⟩
/-- the table's numbers: -1 or what is learnt -/
def tb (be : Nat → Int32) (j f : Nat) : Int := (be (j * 17 + f)).toInt
abbrev isTB (S : Sch) (n0 k0 : Nat) (wv : Nat → Nat → Nat) (be : Nat → Int32) : Prop :=
  (∀ f, f ≤ n0 → tb be 0 f = if f = n0 then 0 else -1) ∧ (∀ j f, j ≤ k0 → f ≤ n0 → -1 ≤ tb be j f ∧ tb be j f ≤ 5049 * j) ∧
  (∀ j f n, j < k0 → vld S n0 f n → 0 ≤ tb be j (f + n) → (wv f n : Int) + tb be j (f + n) ≤ tb be (j + 1) f) ∧
  (∀ j f, j < k0 → f ≤ n0 → tb be (j + 1) f = -1 ∨ ∃ n, vld S n0 f n ∧ 0 ≤ tb be j (f + n) ∧ tb be (j + 1) f = (wv f n : Int) + tb be j (f + n))
theorem m1_iff {v : Int32} : v = -1 ↔ v.toInt = -1 := by
  rw [← Int32.toInt_inj, show (-1 : Int32).toInt = -1 from by decide]
theorem with_toInt {wo be : Nat → Int32} {wv : Nat → Nat → Nat} {j f n : Nat} (h1 : wo (f * 17 + n) = nI (wv f n)) (h2 : wv f n ≤ 5049) (h3 : -1 ≤ tb be j (f + n) ∧ tb be j (f + n) ≤ 30294) : (K_with wo be (j + 1) f n).toInt = if tb be j (f + n) = -1 then -1 else (wv f n : Int) + tb be j (f + n) := by
  unfold K_with tb
  rw [show (j + 1 - 1) * 17 + f + n = j * 17 + (f + n) by omega]
  have h3' : -1 ≤ (be (j * 17 + (f + n))).toInt ∧ (be (j * 17 + (f + n))).toInt ≤ 30294 := h3
  by_cases c : be (j * 17 + (f + n)) = -1
  · rw [if_pos c, if_pos (m1_iff.mp c)]
    decide
  · rw [if_neg c, if_neg (fun h => c (m1_iff.mpr h)), h1]
    have e : (nI (wv f n)).toInt = (wv f n : Int) := nI_toInt (by omega)
    rw [addI (by rw [e]; omega) (by rw [e]; omega), e]
theorem fill_tb {S : Sch} {n0 k0 : Nat} {wo be : Nat → Int32} {wv : Nat → Nat → Nat} (hw : wS S) (hn0 : n0 ≤ 16) (hk0 : k0 ≤ 6) (hwo : ∀ f n, vld S n0 f n → wo (f * 17 + n) = nI (wv f n) ∧ wv f n ≤ 5049) : isTB S n0 k0 wv (K_fill S n0 k0 wo be) := by
  obtain ⟨g0, g1⟩ := fill_sem (wo := wo) (be := be) hw hn0 hk0
  have t0 : ∀ f, f ≤ n0 → tb (K_fill S n0 k0 wo be) 0 f = if f = n0 then 0 else -1 := by
    intro f hf
    unfold tb
    rw [show 0 * 17 + f = f by omega, g0 f hf]
    split <;> rfl
  have bd : ∀ j f, j ≤ k0 → f ≤ n0 → -1 ≤ tb (K_fill S n0 k0 wo be) j f ∧ tb (K_fill S n0 k0 wo be) j f ≤ 5049 * j := by
    intro j
    induction j with
    | zero =>
      intro f _ hf
      rw [t0 f hf]
      split <;> omega
    | succ j ih =>
      intro f hj hf
      obtain ⟨a1, a2, a3⟩ := g1 (j + 1) f (by omega) hj hf
      refine ⟨a1, ?_⟩
      rcases a3 with a3 | ⟨n, hn, a3⟩
      · unfold tb
        rw [a3, show (-1 : Int32).toInt = -1 from by decide]
        omega
      · obtain ⟨w1, w2⟩ := hwo f n hn
        have hi := ih (f + n) (by omega) hn.2.2
        unfold tb
        rw [a3, with_toInt w1 w2 ⟨hi.1, by omega⟩]
        split <;> omega
  refine ⟨t0, bd, fun j f n hj hn h0 => ?_, fun j f hj hf => ?_⟩
  · obtain ⟨a1, a2, a3⟩ := g1 (j + 1) f (by omega) (by omega) (by have := hn.2.2; omega)
    obtain ⟨w1, w2⟩ := hwo f n hn
    have hi := bd j (f + n) (by omega) hn.2.2
    have h := a2 n hn
    rw [le_toInt, with_toInt w1 w2 ⟨hi.1, by omega⟩, if_neg (by omega)] at h
    exact h
  · obtain ⟨a1, a2, a3⟩ := g1 (j + 1) f (by omega) (by omega) hf
    rcases a3 with a3 | ⟨n, hn, a3⟩
    · exact Or.inl (m1_iff.mp a3)
    · obtain ⟨w1, w2⟩ := hwo f n hn
      have hi := bd j (f + n) (by omega) hn.2.2
      have e := with_toInt (j := j) w1 w2 ⟨hi.1, by omega⟩
      by_cases c : tb (K_fill S n0 k0 wo be) j (f + n) = -1
      · left
        unfold tb
        rw [a3, e, if_pos c]
      · right
        refine ⟨n, hn, by omega, ?_⟩
        show (K_fill S n0 k0 wo be ((j + 1) * 17 + f)).toInt = _
        rw [a3, e, if_neg c]
theorem nat_least {p : Nat → Prop} {n : Nat} (h : p n) : ∃ m, m ≤ n ∧ p m ∧ ∀ m', m' < m → ¬ p m' := by
  induction n using Nat.strongRecOn with
  | _ n ih =>
    by_cases c : ∃ m, m < n ∧ p m
    · obtain ⟨m, m1, m2⟩ := c
      obtain ⟨k, k1, k2⟩ := ih m m1 m2
      exact ⟨k, by omega, k2⟩
    · exact ⟨n, Nat.le_refl _, h, fun m' hm hp => c ⟨m', hm, hp⟩⟩
/-- the walk stands where something is learnt -/
def Wst (n0 : Nat) (be : Nat → Int32) (j f : Nat) : Prop := j = 0 ∨ (f ≤ n0 ∧ 0 ≤ tb be j f)
theorem walk_at {S : Sch} {n0 k0 c0 : Nat} {wo be : Nat → Int32} {wv : Nat → Nat → Nat} (hk0 : k0 ≤ 6) (hc : c0 ≤ k0) (hwo : ∀ f n, vld S n0 f n → wo (f * 17 + n) = nI (wv f n) ∧ wv f n ≤ 5049) (hT : isTB S n0 k0 wv be) {j f : Nat} (h1 : 1 ≤ j) (h2 : j ≤ c0) (hf : f ≤ n0) (h : 0 ≤ tb be j f) : ∃ m, vld S n0 f m ∧ K_with wo be j f m = be (j * 17 + f) ∧ (∀ m', (S.2.2 9 2).toNatClampNeg ≤ m' → m' < m → ¬ K_with wo be j f m' = be (j * 17 + f)) ∧ 0 ≤ tb be (j - 1) (f + m) ∧ tb be j f = (wv f m : Int) + tb be (j - 1) (f + m) := by
  obtain ⟨i, rfl⟩ : ∃ i, j = i + 1 := ⟨j - 1, by omega⟩
  rw [show i + 1 - 1 = i from rfl]
  rcases hT.2.2.2 i f (by omega) hf with e | ⟨n, hn, n1, n2⟩
  · omega
  · have key : ∀ m, vld S n0 f m → (K_with wo be (i + 1) f m = be ((i + 1) * 17 + f) ↔ 0 ≤ tb be i (f + m) ∧ tb be (i + 1) f = (wv f m : Int) + tb be i (f + m)) := by
      intro m hm
      obtain ⟨w1, w2⟩ := hwo f m hm
      have hi := hT.2.1 i (f + m) (by omega) hm.2.2
      rw [← Int32.toInt_inj, with_toInt w1 w2 ⟨hi.1, by omega⟩]
      show (if tb be i (f + m) = -1 then -1 else (wv f m : Int) + tb be i (f + m)) = tb be (i + 1) f ↔ _
      by_cases c : tb be i (f + m) = -1
      · rw [if_pos c]
        constructor
        · intro e; omega
        · rintro ⟨a, -⟩; omega
      · rw [if_neg c]
        constructor
        · intro e; exact ⟨by omega, e.symm⟩
        · rintro ⟨-, e⟩; exact e.symm
    obtain ⟨m, m1, ⟨m2, m3⟩, m4⟩ := nat_least (p := fun m => (S.2.2 9 2).toNatClampNeg ≤ m ∧ K_with wo be (i + 1) f m = be ((i + 1) * 17 + f)) (n := n) ⟨hn.1, (key n hn).mpr ⟨n1, n2⟩⟩
    have hm : vld S n0 f m := ⟨m2, by have := hn.2.1; omega, by have := hn.2.2; omega⟩
    obtain ⟨q1, q2⟩ := (key m hm).mp m3
    exact ⟨m, hm, m3, fun m' a b c => m4 m' b ⟨a, c⟩, q1, q2⟩
theorem walkP_of {S : Sch} {n0 k0 c0 : Nat} {wo be : Nat → Int32} {wv : Nat → Nat → Nat} (hk0 : k0 ≤ 6) (hc : c0 ≤ k0) (hwo : ∀ f n, vld S n0 f n → wo (f * 17 + n) = nI (wv f n) ∧ wv f n ≤ 5049) (hT : isTB S n0 k0 wv be) (h : c0 = 0 ∨ 0 ≤ tb be c0 0) : walkP (S.2.2 9 2).toNatClampNeg n0 c0 wo be (Wst n0 be) := by
  refine ⟨h.imp id (fun h => ⟨Nat.zero_le _, h⟩), fun j f h1 h2 hW => ?_⟩
  rcases hW with e | ⟨hf, h0⟩
  · omega
  · obtain ⟨m, m1, m2, m3, m4, m5⟩ := walk_at hk0 hc hwo hT h1 h2 hf h0
    exact ⟨m, m1.1, m1.2.2, m2, m3, Or.inr ⟨m1.2.2, m4⟩⟩
end
