/-! Both sides answer alike: move. -/
noncomputable section
theorem bt (m k : Nat) : m / 2 ^ k % 2 = if m.testBit k = true then 1 else 0 := by
  rw [Nat.testBit_eq_decide_div_mod_eq]
  have := Nat.mod_lt (m / 2 ^ k) (show 0 < 2 by decide)
  by_cases h : m / 2 ^ k % 2 = 1
  · simp [h]
  · simp [h]; omega
theorem clr_nI {m l : Nat} (hm : m < 65536) (hl : l < 16) : nI m &&& (((1 : Int32) <<< (nI l &&& 31)) ^^^ (-1 : Int32)) = nI (m ^^^ (m &&& 2 ^ l)) := by
  rw [shl1_nI l (by omega)]
  apply Int32.toBitVec_inj.mp
  rw [Int32.toBitVec_and, Int32.toBitVec_xor]
  show BitVec.ofNat 32 m &&& (BitVec.ofNat 32 (2 ^ l) ^^^ BitVec.allOnes 32) = BitVec.ofNat 32 (m ^^^ (m &&& 2 ^ l))
  apply BitVec.eq_of_getLsbD_eq
  intro k hk
  simp only [BitVec.getLsbD_and, BitVec.getLsbD_xor, BitVec.getLsbD_ofNat, BitVec.getLsbD_allOnes, Nat.testBit_xor, Nat.testBit_and, hk, decide_true, Bool.true_and]
  cases m.testBit k <;> cases (2 ^ l).testBit k <;> rfl
theorem clr_tb (m l k : Nat) : (m ^^^ (m &&& 2 ^ l)).testBit k = (m.testBit k && !decide (l = k)) := by
  rw [Nat.testBit_xor, Nat.testBit_and, Nat.testBit_two_pow]
  cases m.testBit k <;> cases decide (l = k) <;> rfl
theorem pop_clr {m l : Nat} (hl : l < 16) (hb : m.testBit l = true) : pop m = pop (m ^^^ (m &&& 2 ^ l)) + 1 := by
  have key := fo_rel (F := fun k x => x + (m ^^^ (m &&& 2 ^ l)) / 2 ^ k % 2) (G := fun k x => x + m / 2 ^ k % 2) (fun k a b => b = a + if l < k then 1 else 0) 17 0 0 0 (by rw [if_neg (by omega)]) (fun k a b _ hk h => by
    show b + m / 2 ^ k % 2 = a + (m ^^^ (m &&& 2 ^ l)) / 2 ^ k % 2 + if l < k + 1 then 1 else 0
    rw [bt, bt, clr_tb, h]
    by_cases e : l = k
    · subst e
      rw [if_neg (Nat.lt_irrefl _), hb, if_pos rfl, if_neg (by simp), if_pos (by omega)]
    · have e2 : (m.testBit k && !decide (l = k)) = m.testBit k := by simp [e]
      rw [e2]
      generalize (if m.testBit k = true then 1 else 0) = t
      by_cases c : l < k
      · rw [if_pos c, if_pos (show l < k + 1 by omega)]; omega
      · rw [if_neg c, if_neg (show ¬ l < k + 1 by omega)]; omega)
  rw [if_pos (by omega)] at key
  exact key
theorem pop_0 : ∀ m, m < 131072 → pop m = 0 → m = 0 := by
  intro m
  induction m using Nat.strongRecOn with
  | _ m ih =>
    intro h h0
    have e := pop_half h
    by_cases hm : m = 0
    · exact hm
    · have := ih (m / 2) (by omega) (by omega) (by omega)
      omega
theorem clr_bc {S : Sch} {W : Int32} {l : Nat} (hn : S.1 ≤ 16) (h : inS S W) (hl : l < 16) (hb : K_bit W (nI l) = 1) : ∃ v, v ≤ 16 ∧ K_bc (W &&& (((1 : Int32) <<< (nI l &&& 31)) ^^^ (-1 : Int32))) = nI v ∧ K_bc W = nI (v + 1) ∧ (W &&& (((1 : Int32) <<< (nI l &&& 31)) ^^^ (-1 : Int32)) = 0 ↔ v = 0) := by
  obtain ⟨w, hw, rfl⟩ := h
  have hp := p16 hn
  have htb : w.testBit l = true := by
    rw [bit_tb (by omega) (by omega)] at hb
    by_cases c : w.testBit l = true
    · exact c
    · rw [if_neg c] at hb
      exact absurd hb (by decide)
  have e := pop_clr hl htb
  have hlt : w ^^^ (w &&& 2 ^ l) < 65536 := Nat.xor_lt_two_pow (n := 16) (by omega) (Nat.lt_of_le_of_lt Nat.and_le_left (by omega))
  have h17 := pop_le w
  refine ⟨pop (w ^^^ (w &&& 2 ^ l)), by omega, ?_, ?_, ?_⟩
  · rw [clr_nI (by omega) hl, bc_nI (by omega)]
  · rw [bc_nI (by omega), e]
  · rw [clr_nI (by omega) hl]
    constructor
    · intro q
      have : w ^^^ (w &&& 2 ^ l) = 0 := by
        by_cases c : w ^^^ (w &&& 2 ^ l) = 0
        · exact c
        · exact absurd q (nI_ne0 (by omega) (by omega))
      rw [this]; rfl
    · intro q
      rw [pop_0 _ (by omega) q]
      rfl
theorem ab4 (a b c d : Int32) : a - b + c - d = a + c - (b + d) := by
  apply Int32.toBitVec_inj.mp
  rw [Int32.toBitVec_sub, Int32.toBitVec_add, Int32.toBitVec_sub, Int32.toBitVec_sub, Int32.toBitVec_add, Int32.toBitVec_add]
  generalize a.toBitVec = a
  generalize b.toBitVec = b
  generalize c.toBitVec = c
  generalize d.toBitVec = d
  apply BitVec.eq_of_toNat_eq
  simp only [BitVec.toNat_sub, BitVec.toNat_add]
  omega
end
