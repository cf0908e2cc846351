/-! The line of a school: the walk along both tables. -/
noncomputable section
theorem with_iff {S : Sch} {n0 k0 : Nat} {wo be : Nat → Int32} {wv : Nat → Nat → Nat} (hk0 : k0 ≤ 6) (hwo : ∀ f n, vld S n0 f n → wo (f * 17 + n) = nI (wv f n) ∧ wv f n ≤ 5049) (hT : isTB S n0 k0 wv be) {i f m : Nat} (hi : i < k0) (hm : vld S n0 f m) (h : 0 ≤ tb be (i + 1) f) : K_with wo be (i + 1) f m = be ((i + 1) * 17 + f) ↔ 0 ≤ tb be i (f + m) ∧ tb be (i + 1) f = (wv f m : Int) + tb be i (f + m) := by
  obtain ⟨w1, w2⟩ := hwo f m hm
  have hb := hT.2.1 i (f + m) (by omega) hm.2.2
  rw [← Int32.toInt_inj, with_toInt w1 w2 ⟨hb.1, by omega⟩]
  show (if tb be i (f + m) = -1 then -1 else (wv f m : Int) + tb be i (f + m)) = tb be (i + 1) f ↔ _
  by_cases c : tb be i (f + m) = -1
  · rw [if_pos c]
    constructor
    · intro e; omega
    · rintro ⟨a, -⟩; omega
  · rw [if_neg c]
    constructor
    · intro e; exact ⟨by omega, e.symm⟩
    · rintro ⟨-, e⟩; exact e.symm
theorem walk_step {S : Sch} {n0 c0 : Nat} {wo ws be sz st : Nat → Int32} {k n : Nat} {z : Nat × (Nat → Int32) × (Nat → Int32)} (hk : k < c0) (hn1 : (S.2.2 9 2).toNatClampNeg ≤ n) (hn2 : z.1 + n ≤ n0) (hy : K_with wo be (c0 - k) z.1 n = be ((c0 - k) * 17 + z.1)) (hno : ∀ m, (S.2.2 9 2).toNatClampNeg ≤ m → m < n → ¬ K_with wo be (c0 - k) z.1 m = be ((c0 - k) * 17 + z.1)) : F_walk_7 S n0 c0 wo ws be sz st k z = (z.1 + n, upd z.2.1 k (nI n), upd z.2.2 k (ws (z.1 * 17 + n))) := by
  have key := fe_inv (F := F_walk_20 S n0 c0 wo ws be sz st k z) (fun i _ => ∀ m, (S.2.2 9 2).toNatClampNeg ≤ m → m < i → ¬ K_with wo be (c0 - k) z.1 m = be ((c0 - k) * 17 + z.1)) (fun r => (S.2.2 9 2).toNatClampNeg ≤ r ∧ K_with wo be (c0 - k) z.1 r = be ((c0 - k) * 17 + z.1) ∧ ∀ m, (S.2.2 9 2).toNatClampNeg ≤ m → m < r → ¬ K_with wo be (c0 - k) z.1 m = be ((c0 - k) * 17 + z.1)) (n0 - z.1 - (S.2.2 9 2).toNatClampNeg) (S.2.2 9 2).toNatClampNeg () (fun m h1 h2 => by omega) (fun j u hj hj2 hju => by
    unfold F_walk_20
    by_cases c : K_with wo be (c0 - k) z.1 j = be ((c0 - k) * 17 + z.1)
    · rw [if_pos c]
      refine ⟨fun z' e => (by cases e), fun r e => ?_⟩
      cases e
      exact ⟨hj, c, hju⟩
    · rw [if_neg c]
      refine ⟨fun z' e => ?_, fun r e => (by cases e)⟩
      intro m h1 h2
      by_cases d : m = j
      · rw [d]; exact c
      · exact hju m h1 (by omega))
  have ek : c0 - (c0 - k) = k := by omega
  unfold F_walk_7
  rw [ek]
  generalize fe (F_walk_20 S n0 c0 wo ws be sz st k z) (n0 - z.1 - (S.2.2 9 2).toNatClampNeg) (S.2.2 9 2).toNatClampNeg () = s at key ⊢
  rcases s with a | r
  · have h := key.1 a rfl
    have e : n0 - z.1 = n := by
      by_cases c : n < n0 - z.1
      · exact absurd hy (h n hn1 (by omega))
      · omega
    rw [Sum.elim_inl, e]
  · obtain ⟨h1, h2, h3⟩ := key.2 r rfl
    have e : r = n := by
      rcases Nat.lt_trichotomy r n with c | c | c
      · exact absurd h2 (hno r h1 c)
      · exact c
      · exact absurd hy (h3 n hn1 c)
    rw [Sum.elim_inr, e]
theorem walk_rel {S : Sch} {k0 : Nat} {wo ws be sz st bs bm bz : Nat → Int32} {wv : Nat → Nat → Nat} {G : Nat → (Nat × Nat) → (Nat × Nat)} (hw : wS S) (hk6 : k0 ≤ 6) (hwo : ∀ f n, vld S S.1 f n → wo (f * 17 + n) = nI (wv f n) ∧ wv f n ≤ 5049) (hT : isTB S S.1 k0 wv be) (hR : ∀ k f, k ≤ k0 → f ≤ S.1 → Rb bs bm k f ∧ Rv S wv bs bm k f (bs (17 * k + f)) (bm (17 * k + f)) (bz (17 * k + f))) (h0 : 0 ≤ bsI bs k0 0) (hG : ∀ k z, G k z = (z.1 + (bz (17 * z.2 + z.1)).toNatClampNeg, z.2 - 1)) :
    ∀ k, k ≤ bmN bm k0 0 → lpP S bs bm k0 k (fo G k 0 (0, k0)).1 (fo G k 0 (0, k0)).2 ∧ (fo (F_walk_7 S S.1 (bmN bm k0 0) wo ws be sz st) k 0 (0, sz, st)).1 = (fo G k 0 (0, k0)).1 ∧ ∀ q, q < k → vld S S.1 (fo G q 0 (0, k0)).1 (bz (17 * (fo G q 0 (0, k0)).2 + (fo G q 0 (0, k0)).1)).toNatClampNeg ∧ (fo (F_walk_7 S S.1 (bmN bm k0 0) wo ws be sz st) k 0 (0, sz, st)).2.1 q = nI (bz (17 * (fo G q 0 (0, k0)).2 + (fo G q 0 (0, k0)).1)).toNatClampNeg ∧ (fo (F_walk_7 S S.1 (bmN bm k0 0) wo ws be sz st) k 0 (0, sz, st)).2.2 q = ws ((fo G q 0 (0, k0)).1 * 17 + (bz (17 * (fo G q 0 (0, k0)).2 + (fo G q 0 (0, k0)).1)).toNatClampNeg) := by
  have h16 := hw.1
  intro k
  induction k with
  | zero =>
    intro _
    exact ⟨⟨rfl, Nat.zero_le _, h0, rfl⟩, rfl, fun q hq => absurd hq (Nat.not_lt_zero _)⟩
  | succ k ih =>
    intro hk
    obtain ⟨i1, i2, i3⟩ := ih (by omega)
    rw [fo_last G, fo_last (F_walk_7 S S.1 (bmN bm k0 0) wo ws be sz st), Nat.zero_add]
    generalize hgz : fo G k 0 (0, k0) = gz at i1 i2
    generalize fo (F_walk_7 S S.1 (bmN bm k0 0) wo ws be sz st) k 0 (0, sz, st) = wz at i2 i3 ⊢
    have hnx := lp_next hw hk6 hR (show k < bmN bm k0 0 by omega) i1
    obtain ⟨p1, p2, p3, p4⟩ := id i1
    have hfl : gz.1 < S.1 := by
      refine Nat.lt_of_le_of_ne p2 (fun e => ?_)
      have h1 := (hR gz.2 gz.1 (by omega) p2).2.1 e
      have : bmN bm gz.2 gz.1 = 0 := by unfold bmN; rw [h1.2]; rfl
      omega
    obtain ⟨l', hl'⟩ : ∃ l', gz.2 = l' + 1 := ⟨gz.2 - 1, by omega⟩
    obtain ⟨n, n1, n2, n3, n4, n5, n6, n7, n8⟩ := (line_rel hw hk6 hT hR gz.2 (by omega) gz.1 p2).2 l' hl' hfl p3
    obtain ⟨-, hrel⟩ := (line_rel hw hk6 hT hR gz.2 (by omega) gz.1 p2).1
    have hm : bmN bm k0 0 - k = bmN bm gz.2 gz.1 := by omega
    have hbz : (bz (17 * gz.2 + gz.1)).toNatClampNeg = n := by rw [n2, nI_clamp (by have := n1.2.1; have := (mo_cl hw).2.2.1; omega)]
    obtain ⟨mi, hmi⟩ : ∃ mi, bmN bm gz.2 gz.1 = mi + 1 := ⟨bmN bm gz.2 gz.1 - 1, by omega⟩
    rw [hmi, show mi + 1 - 1 = mi from rfl] at n7 n8 n5
    have hmk : mi < k0 := by
      have := (hR gz.2 gz.1 (by omega) p2).1.2.1
      omega
    have h0t : 0 ≤ tb be (mi + 1) gz.1 := by
      rcases hrel with e | ⟨-, -, e, -⟩
      · omega
      · rw [hmi] at e; omega
    have hwk := fun m (hm : vld S S.1 gz.1 m) => with_iff hk6 hwo hT hmk hm h0t
    have hst := walk_step (S := S) (n0 := S.1) (c0 := bmN bm k0 0) (wo := wo) (ws := ws) (be := be) (sz := sz) (st := st) (k := k) (n := n) (z := wz) (by omega) n1.1 (by rw [i2]; exact n1.2.2) (by rw [hm, hmi, i2]; exact (hwk n n1).mpr ⟨by omega, n7⟩) (fun m h1 h2 hc => by
      rw [hm, hmi, i2] at hc
      have hvm : vld S S.1 gz.1 m := ⟨h1, by have := n1.2.1; omega, by have := n1.2.2; omega⟩
      exact n8 m hvm h2 ((hwk m hvm).mp hc))
    rw [hst, hG]
    refine ⟨hnx.2.2.2.2, ?_, fun q hq => ?_⟩
    · show wz.1 + n = gz.1 + _
      rw [i2, hbz]
    · show _ ∧ upd wz.2.1 k (nI n) q = _ ∧ upd wz.2.2 k _ q = _
      by_cases e : q = k
      · subst e
        rw [hgz, pk_us, pk_us, hbz, i2]
        exact ⟨n1, rfl, rfl⟩
      · rw [pk_un e, pk_un e]
        exact i3 q (by omega)
end
