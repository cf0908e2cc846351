/-! Both sides answer alike: open. -/
noncomputable section
theorem rg_n {x : Int32} {lo hi : Int} (h : rg x lo hi) (h0 : 0 ≤ lo) {b : Nat} (hb : hi ≤ b) : ∃ n : Nat, n ≤ b ∧ x = nI n := sn_rg h h0 hb
theorem msk_nI {m w : Nat} (hm : m < 65536) (hw : w < 65536) : nI m &&& (nI w ^^^ (-1 : Int32)) = nI (m ^^^ (m &&& w)) := by
  apply Int32.toBitVec_inj.mp
  rw [Int32.toBitVec_and, Int32.toBitVec_xor]
  show BitVec.ofNat 32 m &&& (BitVec.ofNat 32 w ^^^ BitVec.allOnes 32) = BitVec.ofNat 32 (m ^^^ (m &&& w))
  apply BitVec.eq_of_getLsbD_eq
  intro k hk
  simp only [BitVec.getLsbD_and, BitVec.getLsbD_xor, BitVec.getLsbD_ofNat, BitVec.getLsbD_allOnes, Nat.testBit_xor, Nat.testBit_and, hk, decide_true, Bool.true_and]
  cases m.testBit k <;> cases w.testBit k <;> rfl
theorem orfold {F : Nat → Int32 → Int32} {c : Nat → Prop} {u : Nat → Nat} {n : Nat} (hu : ∀ k, k < n → u k < 16) (hF : ∀ k z, k < n → (c k → F k z = z ||| (1 : Int32) <<< (nI (u k) &&& 31)) ∧ (¬ c k → F k z = z)) : ∃ m, m < 65536 ∧ fo F n 0 0 = nI m ∧ ∀ q, m.testBit q = true ↔ ∃ k, k < n ∧ c k ∧ u k = q := by
  have key := fo_inv (F := F) (fun i z => ∃ m, m < 65536 ∧ z = nI m ∧ ∀ q, m.testBit q = true ↔ ∃ k, k < i ∧ c k ∧ u k = q) n 0 0 ⟨0, by decide, rfl, fun q => by
    rw [Nat.zero_testBit]
    exact ⟨fun e => (by cases e), fun ⟨k, h, _⟩ => absurd h (Nat.not_lt_zero k)⟩⟩ (fun k z _ hk ⟨m, h1, h2, h3⟩ => by
    have hk : k < n := by omega
    by_cases hc : c k
    · rw [(hF k z hk).1 hc, h2, or_bit h1 (hu k hk)]
      refine ⟨m ||| 2 ^ u k, Nat.or_lt_two_pow (n := 16) h1 (Nat.pow_lt_pow_right (by decide) (hu k hk)), rfl, fun q => ?_⟩
      rw [Nat.testBit_or, Nat.testBit_two_pow, Bool.or_eq_true, h3, decide_eq_true_eq]
      constructor
      · rintro (⟨d, e1, e2, e3⟩ | e)
        · exact ⟨d, by omega, e2, e3⟩
        · exact ⟨k, by omega, hc, e⟩
      · rintro ⟨d, e1, e2, e3⟩
        by_cases e : d = k
        · subst e; exact Or.inr e3
        · exact Or.inl ⟨d, by omega, e2, e3⟩
    · rw [(hF k z hk).2 hc]
      refine ⟨m, h1, h2, fun q => ?_⟩
      rw [h3]
      constructor
      · rintro ⟨d, e1, e2, e3⟩
        exact ⟨d, by omega, e2, e3⟩
      · rintro ⟨d, e1, e2, e3⟩
        refine ⟨d, ?_, e2, e3⟩
        by_cases e : d = k
        · subst e; exact absurd e2 hc
        · omega)
  rw [Nat.zero_add] at key
  exact key
theorem fo_fst {T U : Type} {F : Nat → T × U → T × U} {G : Nat → T → T} (hF : ∀ k z, (F k z).1 = G k z.1) (n i : Nat) (x : T × U) : (fo F n i x).1 = fo G n i x.1 :=
  fo_rel (F := F) (G := G) (fun _ a b => a.1 = b) n i x x.1 rfl (fun k a b _ _ h => by rw [hF, h])
theorem fo_snd {T U : Type} {F : Nat → T × U → T × U} {G : Nat → U → U} (hF : ∀ k z, (F k z).2 = G k z.2) (n i : Nat) (x : T × U) : (fo F n i x).2 = fo G n i x.2 :=
  fo_rel (F := F) (G := G) (fun _ a b => a.2 = b) n i x x.2 rfl (fun k a b _ _ h => by rw [hF, h])
theorem isOpen_eq {S : Sch} {P : Pln} {e : Nat} (hw : wS S) (hgo : goP S P) (hwl : ∀ k, k < P.1 → wL (P.2 k)) (he : e < 16) : K_canOpen S P (nI e) = K_m_isOpen S P (nI e) := by
  have hn5 := hw.2.1
  have hcls : (fo (F_m_isOpen_9 S P (nI e)) P.1 0 ((0 : Int32), (0 : Int32))).1 = K_cls P (nI e) := by
    unfold K_cls
    rw [fo_fst (G := fun k x => x + (if P.2 k 2 = nI e then 1 else 0)) (fun k z => ?_)]
    unfold F_m_isOpen_9
    by_cases c : P.2 k 2 = nI e
    · simp only [if_pos c]
    · simp only [if_neg c]; exact (Int32.add_zero _).symm
  -- the teachers that have this subject
  have htt : ∀ k, ∃ t, k < P.1 → P.2 k 1 = nI t ∧ t < 5 := fun k => by
    by_cases hk : k < P.1
    · obtain ⟨t, h1, h2⟩ := (hgo k hk).1
      exact ⟨t, fun _ => ⟨h2, by omega⟩⟩
    · exact ⟨0, fun h => absurd h hk⟩
  have hss : ∀ k, ∃ t, k < P.1 → P.2 k 2 = nI t ∧ t < 6 := fun k => by
    by_cases hk : k < P.1
    · obtain ⟨t, h1, h2⟩ := rg_n (hwl k hk).2.2.1 (by decide) (b := 5) (by decide)
      exact ⟨t, fun _ => ⟨h2, by omega⟩⟩
    · exact ⟨0, fun h => absurd h hk⟩
  obtain ⟨tt, htt⟩ := Classical.axiomOfChoice htt
  obtain ⟨ss, hss⟩ := Classical.axiomOfChoice hss
  obtain ⟨m, hm, em, bm⟩ := orfold (F := fun k x => if P.2 k 2 = nI e then x ||| (1 : Int32) <<< (P.2 k 1 &&& 31) else x) (c := fun k => P.2 k 2 = nI e) (u := tt) (n := P.1) (fun k hk => by have := (htt k hk).2; omega) (fun k z hk => by
    rw [(htt k hk).1]
    exact ⟨fun c => if_pos c, fun c => if_neg c⟩)
  have hmask : (fo (F_m_isOpen_9 S P (nI e)) P.1 0 ((0 : Int32), (0 : Int32))).2 = nI m := by
    rw [← em, fo_snd (G := fun k x => if P.2 k 2 = nI e then x ||| (1 : Int32) <<< (P.2 k 1 &&& 31) else x) (fun k z => ?_)]
    unfold F_m_isOpen_9
    by_cases c : P.2 k 2 = nI e
    · simp only [if_pos c]
    · simp only [if_neg c]
  have free : ∀ t, t < 5 → (((K_evs P (nI t)) >>> (nI e &&& 31)) &&& (1 : Int32) = 0 ↔ ((nI m >>> (nI t &&& 31)) &&& (1 : Int32)) = 0) := by
    intro t ht
    obtain ⟨v, hv, ev, bv⟩ := orfold (F := fun k x => if P.2 k 1 = nI t then x ||| (1 : Int32) <<< (P.2 k 2 &&& 31) else x) (c := fun k => P.2 k 1 = nI t) (u := ss) (n := P.1) (fun k hk => by have := (hss k hk).2; omega) (fun k z hk => by
      rw [(hss k hk).1]
      exact ⟨fun c => if_pos c, fun c => if_neg c⟩)
    have e1 : K_evs P (nI t) = nI v := ev
    rw [e1]
    show K_bit (nI v) (nI e) = 0 ↔ K_bit (nI m) (nI t) = 0
    rw [bit_tb (by omega) (by omega), bit_tb (by omega) (by omega)]
    have hiff : v.testBit e = true ↔ m.testBit t = true := by
      rw [bv, bm]
      constructor
      · rintro ⟨k, h1, h2, h3⟩
        obtain ⟨a1, a2⟩ := htt k h1
        obtain ⟨b1, b2⟩ := hss k h1
        exact ⟨k, h1, by rw [b1, h3], nI_injL (by omega) (by omega) (a1.symm.trans h2)⟩
      · rintro ⟨k, h1, h2, h3⟩
        obtain ⟨a1, a2⟩ := htt k h1
        obtain ⟨b1, b2⟩ := hss k h1
        exact ⟨k, h1, by rw [a1, h3], nI_injL (by omega) (by omega) (b1.symm.trans h2)⟩
    by_cases c : m.testBit t = true
    · rw [if_pos c, if_pos (hiff.mpr c)]
    · rw [if_neg c, if_neg (fun q => c (hiff.mp q))]
  obtain ⟨k1, k2⟩ := fe_fo_relN (F := F_canOpen_18 S P (nI e)) (G := F_m_isOpen_76 S P (nI e)) (fun _ _ b => b = 0) (fun _ r b => r = 1 ∧ b = 1) S.2.1 (fun k r b _ h => ⟨h.1, by unfold F_m_isOpen_76; rw [if_neg (show ¬ b = 0 by rw [h.2]; decide)]⟩) S.2.1 0 () (0 : Int32) (Nat.zero_add _) rfl (fun k a b hk h => by
    unfold F_canOpen_18 F_m_isOpen_76
    rw [if_pos h, hmask]
    have ht : (K_teaches S (nI k) (nI e) = 0) = (((S.2.2 5 k >>> (nI e &&& 31)) &&& (1 : Int32)) = 0) := by
      have := teaches_eq (C := fun _ => nI k) hw ⟨k, hk, rfl⟩ (nI e)
      rw [nI_clamp (by omega)] at this
      exact this
    have eb : ((S.2.2 5 k >>> (nI e &&& 31)) &&& (1 : Int32)) = K_bit (S.2.2 5 k) (nI e) := rfl
    have fr := free k (by omega)
    rw [eb] at ht ⊢
    rcases bit_cases (S.2.2 5 k) (nI e) with hb | hb
    · rw [if_pos (ht ▸ hb), if_neg (show ¬ K_bit (S.2.2 5 k) (nI e) = 1 by rw [hb]; decide)]
      exact ⟨fun _ _ => rfl, fun r e => (by cases e)⟩
    · rw [if_neg (show ¬ K_teaches S (nI k) (nI e) = 0 by rw [ht, hb]; decide), if_pos hb]
      by_cases c : ((nI m >>> (nI k &&& 31)) &&& (1 : Int32)) = 0
      · rw [if_pos c, if_pos (fr.mpr c)]
        exact ⟨fun z e => (by cases e), fun r e => ⟨(Sum.inr.inj e).symm, rfl⟩⟩
      · rw [if_neg c, if_neg (fun q => c (fr.mp q))]
        exact ⟨fun _ _ => rfl, fun r e => (by cases e)⟩)
  unfold K_canOpen K_m_isOpen
  rw [hcls]
  rcases hf : fe (F_canOpen_18 S P (nI e)) S.2.1 0 () with z | r
  · rw [k1 z hf, Sum.elim_inl, if_pos (rfl : (0 : Int32) = 0)]
    by_cases c : K_cls P (nI e) < S.2.2 9 4
    · rw [if_pos c]
    · rw [if_neg c]
  · obtain ⟨h1, h2⟩ := k2 r hf
    rw [h2, Sum.elim_inr, h1, if_neg (show ¬ (1 : Int32) = 0 by decide)]
end
