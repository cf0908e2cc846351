/-! Sitting beside (class): the table made when it is first needed, the seats, the public method. -/
noncomputable section
theorem lhas_y {w : Int32} {m l : Nat} (h : w = nI m) (hm : m < 131072) (hl : l < 17) (hb : m.testBit l = true) : ¬ (if K_bit w (nI l) = 0 then (0 : Int32) else 1) = 0 := by
  rw [h, if_neg (fun c => by have := (nbit hm hl).mp c; rw [hb] at this; cases this)]
  decide
section
variable {Γ : ex_G} {σ : ex_S} {x q a p y : Nat} {S : Sch} {T : Tol} {P : Pln} {g A : Nat → Int32}
def K_nbOf (ne : Nat → Int32) (l : Nat) : Int32 := ne l
theorem nbOf_ok {n l : Nat} {bv : Value} (h_bn : σ.2 q = some (.inr (.inr (8, [.ref (q + 1), .ref (q + 2), .ref (q + 3), bv, .int (nI n)])))) {ne : Nat → Int32} (h_ne : σ.2 (q + 3) = some (.inl (0, 16, ne))) (hl : l < 16) : RetV Γ m_Benches_neighbourOf [(.ref q), (.int (nI l))] σ (.int (K_nbOf ne l)) := by
  unfold RetV
  generalize hQ : (fun (r : Option Value) (σ' : ex_S) => r = some ((.int (K_nbOf ne l)) : Value) ∧ σ' = σ) = Q
  refine Ret.start pm_151 rfl ?_
  refine Ev.iload_n rfl rfl ?_
  refine Ev.zlt (tgt := 19) rfl (by decide) (fun c1 => absurd c1 (nI_pos (by omega))) (fun c1 => ?_)
  refine Ev.iload_n rfl rfl ?_
  refine Ev.bipush (v := 16) rfl (by decide) ?_
  refine Ev.jge (tgt := 19) rfl (by decide) (fun c7 => absurd (nI_lt (b := 16) hl (by decide)) c7) (fun c7 => ?_)
  refine Ev.aload_n rfl rfl ?_
  refine Ev.getf rfl rfl h_bn rfl ?_
  refine Ev.iload_n rfl rfl ?_
  refine Ev.ialdN (k := l) rfl h_ne rfl ⟨(by omega), by decide⟩ ?_
  refine Ev.goto (tgt := 20) rfl (by decide) ?_
  refine Ev.iret (ty := .int) rfl rfl rfl (Nat.le_refl _) (Nat.le_refl _) ?_
  rw [← hQ]
  refine ⟨congrArg (fun v => some (Value.int v)) (Eq.symm ?_), rfl⟩
  rfl
theorem bfill_ok {n : Nat} {v : Nat → Nat → Nat} {bo : Option Nat} (h_bn : σ.2 q = some (.inr (.inr (8, [.ref (q + 1), .ref (q + 2), .ref (q + 3), bbV bo, .int (nI n)])))) {co : Nat → Int32} (h_co : σ.2 (q + 2) = some (.inl (0, 144, co))) (hbo : ∀ b, bo = some b → (∃ f, σ.2 b = some (.inl (0, 4096, f))) ∧ q + 4 ≤ b ∧ b + 1 ≤ σ.1) (hqs : q + 4 ≤ σ.1) (hn : n ≤ 12) (hco : ∀ a b, a < n → b < n → co (a * 12 + b) = nI (v a b)) (hv : ∀ a b, v a b ≤ 297) : Ret Γ m_Benches_fillTable 1 4096 [.ref q] σ (fun r τ => r = none ∧ ∃ (b : Nat) (be : Nat → Int32), (bo = some b ∧ τ.1 = σ.1 ∨ bo = none ∧ b = σ.1 ∧ τ.1 = σ.1 + 1) ∧ (∀ p, p < σ.1 → p ≠ q → p ≠ b → τ.2 p = σ.2 p) ∧ q + 4 ≤ b ∧ τ.2 q = some (.inr (.inr (8, [.ref (q + 1), .ref (q + 2), .ref (q + 3), .ref b, .int (nI n)]))) ∧ τ.2 b = some (.inl (0, 4096, be)) ∧ TabC n v (2 ^ n) be) := by
  generalize hQ : (fun (r : Option Value) (τ : ex_S) => r = none ∧ ∃ (b : Nat) (be : Nat → Int32), (bo = some b ∧ τ.1 = σ.1 ∨ bo = none ∧ b = σ.1 ∧ τ.1 = σ.1 + 1) ∧ (∀ p, p < σ.1 → p ≠ q → p ≠ b → τ.2 p = σ.2 p) ∧ q + 4 ≤ b ∧ τ.2 q = some (.inr (.inr (8, [.ref (q + 1), .ref (q + 2), .ref (q + 3), .ref b, .int (nI n)]))) ∧ τ.2 b = some (.inl (0, 4096, be)) ∧ TabC n v (2 ^ n) be) = Q
  refine Ret.start pm_153 rfl ?_
  cases bo with
  | some b =>
    obtain ⟨⟨be, h_be⟩, b1, b2⟩ := hbo b rfl
    have h_bn : σ.2 q = some (.inr (.inr (8, [.ref (q + 1), .ref (q + 2), .ref (q + 3), .ref b, .int (nI n)]))) := h_bn
    refine Ev.aload_n rfl rfl ?_
    refine Ev.getf rfl rfl h_bn rfl ?_
    refine Ev.ifnonnull (tgt := 16) rfl (by decide) ?_
    refine Ev.fg (L := [some (.ref q), none, none, none, none, none]) ?_ (gs rfl (gn (gn (gn (gn (gn gz))))))
    refine fillT_ev (bv := .null) (by omega) (by omega) h_be b1 h_bn h_co hn hco hv (fun τ be1 f1 h1 h2 => ?_)
    rw [← hQ]
    exact ⟨rfl, b, be1, Or.inl ⟨rfl, f1.1⟩, fun p hp hpq hpb => f1.2 p (by omega), b1, (f1.2 q (by omega)).trans h_bn, h1, h2⟩
  | none =>
    have h_bn : σ.2 q = some (.inr (.inr (8, [.ref (q + 1), .ref (q + 2), .ref (q + 3), .null, .int (nI n)]))) := h_bn
    refine Ev.aload_n rfl rfl ?_
    refine Ev.getf rfl rfl h_bn rfl ?_
    refine Ev.ifnonnullN rfl ?_
    refine Ev.aload_n rfl rfl ?_
    refine Ev.sipush (v := 4096) rfl (by decide) ?_
    refine Ev.newaE (t := 0) (N := 4096) (b := σ.1) rfl rfl rfl rfl rfl rfl pa_0 (by decide) (by decide) (by decide) (by omega) (by omega) (fun τ1 z1 k1 c1 => ?_)
    have h_bn := (k1 q (by omega)).trans h_bn
    have h_co := (k1 (q + 2) (by omega)).trans h_co
    refine Ev.putE rfl rfl h_bn rfl rfl rfl (Nat.le_of_ble_eq_true rfl) (fun τ2 f2 h_bn => ?_)
    have h_bn : τ2.2 q = some (.inr (.inr (8, [.ref (q + 1), .ref (q + 2), .ref (q + 3), .ref σ.1, .int (nI n)]))) := h_bn
    have h_co := frm.cell f2 h_co (by omega)
    have h_be := frm.cell f2 c1 (by omega)
    refine Ev.fg (L := [some (.ref q), none, none, none, none, none]) ?_ (gs rfl (gn (gn (gn (gn (gn gz))))))
    refine fillT_ev (bv := .null) (by omega) (by omega) h_be hqs h_bn h_co hn hco hv (fun τ be1 f1 h1 h2 => ?_)
    rw [← hQ]
    exact ⟨rfl, σ.1, be1, Or.inr ⟨rfl, rfl, by rw [f1.1, f2.1, z1]⟩, fun p hp hpq hpb => (f1.2 p (by omega)).trans ((f2.2 p (by omega)).trans (k1 p hp)), hqs, (f1.2 q (by omega)).trans h_bn, h1, h2⟩
theorem seat_ok {n0 n m : Nat} {bo : Option Nat} {B : Nat → Nat} (h_bn : σ.2 q = some (.inr (.inr (8, [.ref (q + 1), .ref (q + 2), .ref (q + 3), bbV bo, .int (nI n0)])))) {wo : Nat → Int32} (h_who : σ.2 (q + 1) = some (.inl (0, 12, wo))) {co : Nat → Int32} (h_co : σ.2 (q + 2) = some (.inl (0, 144, co))) {ne : Nat → Int32} (h_ne : σ.2 (q + 3) = some (.inl (0, 16, ne))) (hbo : ∀ b, bo = some b → (∃ f, σ.2 b = some (.inl (0, 4096, f))) ∧ q + 4 ≤ b ∧ b + 1 ≤ σ.1) (hqs : q + 4 ≤ σ.1) (hS0 : isS σ a S) (hwS : wS S) (haq : a + 11 ≤ q) (hm : m < 2 ^ S.1) (hn : bcn m S.1 = n) (hb : n ≤ 12) (hB : Tb n (tvS S m) B (2 ^ n)) : Ret Γ m_Benches_seat 1 4096 [.ref q, .ref a, .int (nI m)] σ (fun r τ => r = some (.int (nI (B (2 ^ n - 1)))) ∧ ∃ (b : Nat) (be ne1 wo1 co1 : Nat → Int32), (bo = some b ∧ τ.1 = σ.1 ∨ bo = none ∧ b = σ.1 ∧ τ.1 = σ.1 + 1) ∧ (∀ p, p < σ.1 → ¬ (q ≤ p ∧ p < q + 4) → p ≠ b → τ.2 p = σ.2 p) ∧ q + 4 ≤ b ∧ τ.2 q = some (.inr (.inr (8, [.ref (q + 1), .ref (q + 2), .ref (q + 3), .ref b, .int (nI n)]))) ∧ τ.2 (q + 1) = some (.inl (0, 12, wo1)) ∧ τ.2 (q + 2) = some (.inl (0, 144, co1)) ∧ τ.2 (q + 3) = some (.inl (0, 16, ne1)) ∧ τ.2 b = some (.inl (0, 4096, be)) ∧ ∀ p, p < n → ∃ r, Prt n (tvS S m) B (2 ^ n - 1) p r ∧ (r = n ∧ ne1 (wh m p) = -1 ∨ r < n ∧ ne1 (wh m p) = nI (wh m r))) := by
  have hn16 := hwS.1
  have hm16 : m < 65536 := Nat.lt_of_lt_of_le hm (p16 hn16)
  have hp12 : 2 ^ n ≤ 4096 := Nat.pow_le_pow_right (n := 2) (j := 12) (by decide) hb
  have hp0 := Nat.two_pow_pos n
  have hwl : ∀ j, j < n → wh m j < S.1 := fun j hj => (wh_of (L := S.1) (by omega) (by omega)).2.1
  have hinj : ∀ a b, a < n → b < n → wh m a = wh m b → a = b := fun a b ha hb => wh_inj (L := S.1) (by omega) (by omega) (by omega)
  generalize hQ : ((fun (r : Option Value) (τ : ex_S) => r = some (.int (nI (B (2 ^ n - 1)))) ∧ ∃ (b : Nat) (be ne1 wo1 co1 : Nat → Int32), (bo = some b ∧ τ.1 = σ.1 ∨ bo = none ∧ b = σ.1 ∧ τ.1 = σ.1 + 1) ∧ (∀ p, p < σ.1 → ¬ (q ≤ p ∧ p < q + 4) → p ≠ b → τ.2 p = σ.2 p) ∧ q + 4 ≤ b ∧ τ.2 q = some (.inr (.inr (8, [.ref (q + 1), .ref (q + 2), .ref (q + 3), .ref b, .int (nI n)]))) ∧ τ.2 (q + 1) = some (.inl (0, 12, wo1)) ∧ τ.2 (q + 2) = some (.inl (0, 144, co1)) ∧ τ.2 (q + 3) = some (.inl (0, 16, ne1)) ∧ τ.2 b = some (.inl (0, 4096, be)) ∧ ∀ p, p < n → ∃ r, Prt n (tvS S m) B (2 ^ n - 1) p r ∧ (r = n ∧ ne1 (wh m p) = -1 ∨ r < n ∧ ne1 (wh m p) = nI (wh m r)))) = Q
  refine Ret.start pm_150 rfl ?_
  have fr : frm σ σ q (q + 4) := frm.rf
  refine Ev.aload_n rfl rfl ?_
  refine Ev.iconst (v := 0) rfl (by decide) ?_
  refine Ev.putE rfl rfl h_bn rfl rfl rfl (Nat.le_of_ble_eq_true rfl) (fun τ1 f1 h_bn => ?_)
  replace h_bn : τ1.2 q = some (.inr (.inr (8, [(.ref (q + 1)), (.ref (q + 2)), (.ref (q + 3)), bbV bo, (.int (0 : Int32))]))) := h_bn
  have h_who := frm.cell f1 h_who (by omega)
  have h_co := frm.cell f1 h_co (by omega)
  have h_ne := frm.cell f1 h_ne (by omega)
  have fr := fr.step f1 (by omega) (by omega)
  refine Ev.iconst (v := 0) rfl (by decide) ?_
  refine Ev.istore_n rfl rfl rfl ?_
  have hl7 : ∀ (m7 : Nat) (i : Nat) (z7 : Nat) (wo7 : (Nat → Int32)), (i ≤ 16 ∧ z7 = bcn m i ∧ z7 ≤ 12 ∧ lstd m i wo7) → (16 - i) < m7 → ∀ τ7 : ex_S, frm σ τ7 q (q + 4) → τ7.2 q = some (.inr (.inr (8, [(.ref (q + 1)), (.ref (q + 2)), (.ref (q + 3)), bbV bo, (.int (nI z7))]))) → τ7.2 (q + 1) = some (.inl (0, 12, wo7)) → τ7.2 (q + 2) = some (.inl (0, 144, co)) → τ7.2 (q + 3) = some (.inl (0, 16, ne)) → Ev Γ 1 4096 m_Benches_seat 0 0 7 [some (.ref q), some (.ref a), some (.int (nI m)), some (.int (nI i))] [] τ7 Q := by
    intro m7
    induction m7 with
    | zero => intro i z7 wo7 _ hm; exact absurd hm (Nat.not_lt_zero _)
    | succ m7 ih7 =>
      intro i z7 wo7 hJ7 hm7
      intro τ7 fr h_bn h_who h_co h_ne
      obtain ⟨hi16, hz7, hz12a, hls⟩ := hJ7
      refine Ev.iload_n rfl rfl ?_
      refine Ev.bipush (v := 16) rfl (by decide) ?_
      refine Ev.jge (tgt := 56) rfl (by decide) (fun c10 => ?_) (fun c10 => ?_)
      · skip
        have hzn : z7 = n := by
          rw [hz7, ← hn]
          rcases Nat.lt_or_ge i S.1 with d | d
          · have h1 := bcn_le (m := m) (a := i) S.1 (by omega)
            first
            | exact absurd (nI_lt (a := i) (b := 16) (by omega) (by decide)) c10
            | (have h2 : ¬ z7 < 12 := fun h => c19 (nI_lt (b := 12) h (by decide))
               omega)
          · exact bcn_top hm i d
        have hwo : ∀ j, j < n → wo7 j = nI (wh m j) := fun j hj => lstd_at hls (by omega) (by omega)
        rw [hzn] at h_bn
        have hS := hS0.frm fr (by omega)
        have kp : ∀ p, p < σ.1 → ¬ (q ≤ p ∧ p < q + 4) → τ7.2 p = σ.2 p := fun p hp h => fr.2 p (by omega)
        have hs7 := fr.1
        refine Ev.aload_n rfl rfl ?_
        refine Ev.aload_n rfl rfl ?_
        refine Ev.xV1u rfl rfl h_bn rfl rfl (by decide) ⟨by omega, by omega⟩ (countP_ok h_bn h_who h_co hS hwS haq hb hwo hwl) (fun τ1 f1 q1 => ?_)
        obtain ⟨c1, h_co1, hcc⟩ := q1
        have h_bn1 := frm.cell f1 h_bn (by omega)
        have h_who1 := frm.cell f1 h_who (by omega)
        have h_ne1 := frm.cell f1 h_ne (by omega)
        refine Ev.aload_n rfl rfl ?_
        refine Ev.callV (as := []) rfl rfl h_bn1 rfl rfl rfl rfl (Nat.le_of_ble_eq_true rfl) ⟨by omega, by omega⟩ (bfill_ok (v := tvS S m) h_bn1 h_co1 (fun b e => by
          obtain ⟨⟨f, b1⟩, b2, b3⟩ := hbo b e
          exact ⟨⟨f, (f1.2 b (by omega)).trans ((fr.2 b (by omega)).trans b1)⟩, b2, by rw [f1.1, hs7]; exact b3⟩) (by rw [f1.1, hs7]; exact hqs) hb hcc (fun a b => tv_le hwS _ _)) (fun v2 τ2 q2 => ?_)
        obtain ⟨rfl, b, be, e1, e2, e3, h_bn2, h_be2, hTab⟩ := q2
        rw [f1.1, hs7] at e1 e2
        change Ev Γ 1 4096 m_Benches_seat (0 + 1) (0 + 4096) 65 _ [] τ2 Q
        have h_who2 := (e2 (q + 1) (by omega) (by omega) (by omega)).trans h_who1
        have h_co2 := (e2 (q + 2) (by omega) (by omega) (by omega)).trans h_co1
        have h_ne2 := (e2 (q + 3) (by omega) (by omega) (by omega)).trans h_ne1
        refine Ev.aload_n rfl rfl ?_
        refine Ev.xV0u rfl rfl h_bn2 rfl rfl (by decide) ⟨by omega, by omega⟩ (bwalk_ok h_be2 e3 h_bn2 h_who2 h_co2 h_ne2 hb hwo (fun j hj => Nat.lt_of_lt_of_le (hwl j hj) hn16) hinj hcc (fun a b => tv_le hwS _ _) hTab) (fun τ3 f3 q3 => ?_)
        obtain ⟨ne3, h_ne3, hne⟩ := q3
        have h_bn3 := frm.cell f3 h_bn2 (by omega)
        have h_be3 := frm.cell f3 h_be2 (by omega)
        refine Ev.aload_n rfl rfl ?_
        refine Ev.getf rfl rfl h_bn3 rfl ?_
        refine Ev.iconst (v := 1) rfl (by decide) ?_
        refine Ev.aload_n rfl rfl ?_
        refine Ev.getf rfl rfl h_bn3 rfl ?_
        refine Ev.ishl rfl ?_
        refine Ev.iconst (v := 1) rfl (by decide) ?_
        refine Ev.isub rfl ?_
        rw [shl1_nI n (by omega), show nI (2 ^ n) - (1 : Int32) = nI (2 ^ n - 1) from nq_sub (a := 2 ^ n) (b := 1) rfl rfl (by omega)]
        refine Ev.ialdN (k := 2 ^ n - 1) rfl h_be3 rfl ⟨by omega, by decide⟩ ?_
        have hBe := Tb_uniq hTab.tb hB
        rw [(hTab.ok (s := 2 ^ n - 1) (by omega)).1, hBe (2 ^ n - 1) (by omega)]
        refine Ev.iret (ty := .int) rfl rfl rfl (by omega) (by omega) ?_
        rw [← hQ]
        refine ⟨rfl, b, be, ne3, wo7, c1, ?_, fun p hp h1 h2 => ?_, e3, h_bn3, (f3.2 _ (by omega)).trans h_who2, (f3.2 _ (by omega)).trans h_co2, h_ne3, h_be3, fun p hp => ?_⟩
        · rw [f3.1]
          exact e1
        · exact (f3.2 p (by omega)).trans ((e2 p (by omega) (by omega) h2).trans ((f1.2 p (by omega)).trans (kp p hp h1)))
        · obtain ⟨r, r1, r2⟩ := hne p hp
          exact ⟨r, Prt_cg (fun t ht => hBe t (by omega)) r1, r2⟩
      · skip
        have hil : i < 16 := (nI_ltI (a := i) (b := 16) (by omega) (by decide)).mp c10
        refine Ev.aload_n rfl rfl ?_
        refine Ev.getf rfl rfl h_bn rfl ?_
        refine Ev.bipush (v := 12) rfl (by decide) ?_
        refine Ev.jge (tgt := 56) rfl (by decide) (fun c19 => ?_) (fun c19 => ?_)
        · skip
          have hzn : z7 = n := by
            rw [hz7, ← hn]
            rcases Nat.lt_or_ge i S.1 with d | d
            · have h1 := bcn_le (m := m) (a := i) S.1 (by omega)
              first
              | exact absurd (nI_lt (a := i) (b := 16) (by omega) (by decide)) c10
              | (have h2 : ¬ z7 < 12 := fun h => c19 (nI_lt (b := 12) h (by decide))
                 omega)
            · exact bcn_top hm i d
          have hwo : ∀ j, j < n → wo7 j = nI (wh m j) := fun j hj => lstd_at hls (by omega) (by omega)
          rw [hzn] at h_bn
          have hS := hS0.frm fr (by omega)
          have kp : ∀ p, p < σ.1 → ¬ (q ≤ p ∧ p < q + 4) → τ7.2 p = σ.2 p := fun p hp h => fr.2 p (by omega)
          have hs7 := fr.1
          refine Ev.aload_n rfl rfl ?_
          refine Ev.aload_n rfl rfl ?_
          refine Ev.xV1u rfl rfl h_bn rfl rfl (by decide) ⟨by omega, by omega⟩ (countP_ok h_bn h_who h_co hS hwS haq hb hwo hwl) (fun τ1 f1 q1 => ?_)
          obtain ⟨c1, h_co1, hcc⟩ := q1
          have h_bn1 := frm.cell f1 h_bn (by omega)
          have h_who1 := frm.cell f1 h_who (by omega)
          have h_ne1 := frm.cell f1 h_ne (by omega)
          refine Ev.aload_n rfl rfl ?_
          refine Ev.callV (as := []) rfl rfl h_bn1 rfl rfl rfl rfl (Nat.le_of_ble_eq_true rfl) ⟨by omega, by omega⟩ (bfill_ok (v := tvS S m) h_bn1 h_co1 (fun b e => by
            obtain ⟨⟨f, b1⟩, b2, b3⟩ := hbo b e
            exact ⟨⟨f, (f1.2 b (by omega)).trans ((fr.2 b (by omega)).trans b1)⟩, b2, by rw [f1.1, hs7]; exact b3⟩) (by rw [f1.1, hs7]; exact hqs) hb hcc (fun a b => tv_le hwS _ _)) (fun v2 τ2 q2 => ?_)
          obtain ⟨rfl, b, be, e1, e2, e3, h_bn2, h_be2, hTab⟩ := q2
          rw [f1.1, hs7] at e1 e2
          change Ev Γ 1 4096 m_Benches_seat (0 + 1) (0 + 4096) 65 _ [] τ2 Q
          have h_who2 := (e2 (q + 1) (by omega) (by omega) (by omega)).trans h_who1
          have h_co2 := (e2 (q + 2) (by omega) (by omega) (by omega)).trans h_co1
          have h_ne2 := (e2 (q + 3) (by omega) (by omega) (by omega)).trans h_ne1
          refine Ev.aload_n rfl rfl ?_
          refine Ev.xV0u rfl rfl h_bn2 rfl rfl (by decide) ⟨by omega, by omega⟩ (bwalk_ok h_be2 e3 h_bn2 h_who2 h_co2 h_ne2 hb hwo (fun j hj => Nat.lt_of_lt_of_le (hwl j hj) hn16) hinj hcc (fun a b => tv_le hwS _ _) hTab) (fun τ3 f3 q3 => ?_)
          obtain ⟨ne3, h_ne3, hne⟩ := q3
          have h_bn3 := frm.cell f3 h_bn2 (by omega)
          have h_be3 := frm.cell f3 h_be2 (by omega)
          refine Ev.aload_n rfl rfl ?_
          refine Ev.getf rfl rfl h_bn3 rfl ?_
          refine Ev.iconst (v := 1) rfl (by decide) ?_
          refine Ev.aload_n rfl rfl ?_
          refine Ev.getf rfl rfl h_bn3 rfl ?_
          refine Ev.ishl rfl ?_
          refine Ev.iconst (v := 1) rfl (by decide) ?_
          refine Ev.isub rfl ?_
          rw [shl1_nI n (by omega), show nI (2 ^ n) - (1 : Int32) = nI (2 ^ n - 1) from nq_sub (a := 2 ^ n) (b := 1) rfl rfl (by omega)]
          refine Ev.ialdN (k := 2 ^ n - 1) rfl h_be3 rfl ⟨by omega, by decide⟩ ?_
          have hBe := Tb_uniq hTab.tb hB
          rw [(hTab.ok (s := 2 ^ n - 1) (by omega)).1, hBe (2 ^ n - 1) (by omega)]
          refine Ev.iret (ty := .int) rfl rfl rfl (by omega) (by omega) ?_
          rw [← hQ]
          refine ⟨rfl, b, be, ne3, wo7, c1, ?_, fun p hp h1 h2 => ?_, e3, h_bn3, (f3.2 _ (by omega)).trans h_who2, (f3.2 _ (by omega)).trans h_co2, h_ne3, h_be3, fun p hp => ?_⟩
          · rw [f3.1]
            exact e1
          · exact (f3.2 p (by omega)).trans ((e2 p (by omega) (by omega) h2).trans ((f1.2 p (by omega)).trans (kp p hp h1)))
          · obtain ⟨r, r1, r2⟩ := hne p hp
            exact ⟨r, Prt_cg (fun t ht => hBe t (by omega)) r1, r2⟩
        · skip
          have hz12 : z7 < 12 := (nI_ltI (a := z7) (b := 12) (by omega) (by decide)).mp c19
          refine Ev.iload_n rfl rfl ?_
          refine Ev.iload_n rfl rfl ?_
          refine Ev.ishr rfl ?_
          refine Ev.iconst (v := 1) rfl (by decide) ?_
          refine Ev.iand rfl ?_
          refine Ev.zeq (tgt := 50) rfl (by decide) (fun c27 => ?_) (fun c27 => ?_)
          · skip
            refine Ev.iinc (d := 1) rfl rfl rfl (by decide) rfl ?_
            refine Ev.goto (tgt := 7) rfl (by decide) ?_
            exact (ih7 (i + 1) z7 wo7 (⟨by omega, by rw [bcn_s0 (by rw [bit_n (m := m) (k := i) (by omega) (by omega) c27]; decide), hz7], by omega, lstd_n hls (by rw [bit_n (m := m) (k := i) (by omega) (by omega) c27]; decide)⟩) (by omega) τ7 fr h_bn h_who h_co h_ne).fg (gs rfl (gs rfl (gs rfl (gs (congrArg Value.int (nq_add (a := i) (b := 1) rfl (rfl : (1 : Int32) = nI 1)).symm) gz))))
          · skip
            have hbt := bit_y (m := m) (k := i) (by omega) (by omega) c27
            refine Ev.aload_n rfl rfl ?_
            refine Ev.getf rfl rfl h_bn rfl ?_
            refine Ev.aload_n rfl rfl ?_
            refine Ev.getf rfl rfl h_bn rfl ?_
            refine Ev.iload_n rfl rfl ?_
            refine Ev.iastE (k := z7) rfl h_who rfl ⟨(by omega), by decide⟩ (fun τ2 f1 h_who => ?_)
            have h_bn := frm.cell f1 h_bn (by omega)
            have h_co := frm.cell f1 h_co (by omega)
            have h_ne := frm.cell f1 h_ne (by omega)
            have fr := fr.step f1 (by omega) (by omega)
            refine Ev.aload_n rfl rfl ?_
            refine Ev.dup rfl rfl ?_
            refine Ev.getf rfl rfl h_bn rfl ?_
            refine Ev.iconst (v := 1) rfl (by decide) ?_
            refine Ev.iadd rfl ?_
            rw [show (nI z7) + (1 : Int32) = nI (z7 + 1) from (nq_add (a := z7) (b := 1) rfl (rfl : (1 : Int32) = nI 1))]
            refine Ev.putE rfl rfl h_bn rfl rfl rfl (Nat.le_of_ble_eq_true rfl) (fun τ3 f1 h_bn => ?_)
            replace h_bn : τ3.2 q = some (.inr (.inr (8, [(.ref (q + 1)), (.ref (q + 2)), (.ref (q + 3)), bbV bo, (.int (nI (z7 + 1)))]))) := h_bn
            have h_who := frm.cell f1 h_who (by omega)
            have h_co := frm.cell f1 h_co (by omega)
            have h_ne := frm.cell f1 h_ne (by omega)
            have fr := fr.step f1 (by omega) (by omega)
            refine Ev.iinc (d := 1) rfl rfl rfl (by decide) rfl ?_
            refine Ev.goto (tgt := 7) rfl (by decide) ?_
            exact (ih7 (i + 1) (z7 + 1) (upd wo7 z7 (nI i)) (⟨by omega, by rw [bcn_s1 hbt, hz7], by omega, by subst hz7; exact lstd_y hls⟩) (by omega) τ3 fr h_bn h_who h_co h_ne).fg (gs rfl (gs rfl (gs rfl (gs (congrArg Value.int (nq_add (a := i) (b := 1) rfl (rfl : (1 : Int32) = nI 1)).symm) gz))))
  exact (hl7 _ 0 0 wo (⟨by omega, rfl, by omega, lstd_0⟩) (Nat.lt_succ_self _) τ1 fr h_bn h_who h_co h_ne).fg (gs rfl (gs rfl (gs rfl (gs (congrArg Value.int (rfl : (0 : Int32) = nI 0).symm) gz))))
theorem beside_all {Γ : ex_G} {σ : ex_S} {x : Nat} {T : Tol} (hX : isX σ x) (hT : isT σ (x + 1) T) (hw : wT T) {u v : Int32} {i j : Nat} (hg : gd T u v i j) {k0 : Nat} (hkk : k0 < (tP T j).1) {n0 n m : Nat} {bo : Option Nat} {B : Nat → Nat} (h_bn : σ.2 (x + 108) = some (.inr (.inr (8, [.ref (x + 108 + 1), .ref (x + 108 + 2), .ref (x + 108 + 3), bbV bo, .int (nI n0)])))) {wo : Nat → Int32} (h_who : σ.2 (x + 108 + 1) = some (.inl (0, 12, wo))) {co : Nat → Int32} (h_co : σ.2 (x + 108 + 2) = some (.inl (0, 144, co))) {ne : Nat → Int32} (h_ne : σ.2 (x + 108 + 3) = some (.inl (0, 16, ne))) (hbo : ∀ b, bo = some b → (∃ f, σ.2 b = some (.inl (0, 4096, f))) ∧ x + 108 + 4 ≤ b ∧ b + 1 ≤ σ.1) (hqs : x + 134 ≤ σ.1) (hm : m < 2 ^ (tS T i).1) (hsm : (tP T j).2 k0 5 = nI m) (hn : bcn m (tS T i).1 = n) (hb : n ≤ 12) (hB : Tb n (tvS (tS T i) m) B (2 ^ n))  : Ret Γ m_SD_beside 1 4096 [.ref x, .int u, .int v, .int (nI k0), (.int (-1 : Int32))] σ (fun r τ => r = some (.int (nI (B (2 ^ n - 1)))) ∧ ∃ (b : Nat) (be ne1 wo1 co1 : Nat → Int32), (bo = some b ∧ τ.1 = σ.1 ∨ bo = none ∧ b = σ.1 ∧ τ.1 = σ.1 + 1) ∧ (∀ p, p < σ.1 → ¬ (x + 108 ≤ p ∧ p < x + 108 + 4) → p ≠ b → τ.2 p = σ.2 p) ∧ x + 108 + 4 ≤ b ∧ τ.2 (x + 108) = some (.inr (.inr (8, [.ref (x + 108 + 1), .ref (x + 108 + 2), .ref (x + 108 + 3), .ref b, .int (nI n)]))) ∧ τ.2 (x + 108 + 1) = some (.inl (0, 12, wo1)) ∧ τ.2 (x + 108 + 2) = some (.inl (0, 144, co1)) ∧ τ.2 (x + 108 + 3) = some (.inl (0, 16, ne1)) ∧ τ.2 b = some (.inl (0, 4096, be))) := by
  unfold isX at hX
  obtain ⟨t0, t1, ⟨fs, t2, t3⟩, ⟨fp, t4, t5⟩, t6, t7⟩ := id hT
  obtain ⟨rfl, hi, rfl, hj, hgo⟩ := hg
  have hw1 := hw.2.1
  have hw2 := hw.2.2.1
  have hwS := hw.2.2.2.1 i hi
  have hwP := hw.2.2.2.2 j hj
  have hn16 := hwS.1
  have hn5 := hwS.2.1
  have h6 := hwP.1
  have hSi := t6 i (by omega)
  have hPj := t7 j (by omega)
  have hokL : ∀ k, k < (tP T j).1 → okL (tS T i) ((tP T j).2 k) := fun k hk => goT_okL hwS (hgo k hk).1
  obtain ⟨h0, h1, h2, h3, h4, h5, h6', h7, h8, h9, h10⟩ := id hSi
  obtain ⟨p0, ⟨pf, p1, p2⟩, p3⟩ := id hPj
  have hm16 : m < 65536 := Nat.lt_of_lt_of_le hm (p16 hn16)
  generalize hQ : ((fun (r : Option Value) (τ : ex_S) => r = some (.int (nI (B (2 ^ n - 1)))) ∧ ∃ (b : Nat) (be ne1 wo1 co1 : Nat → Int32), (bo = some b ∧ τ.1 = σ.1 ∨ bo = none ∧ b = σ.1 ∧ τ.1 = σ.1 + 1) ∧ (∀ p, p < σ.1 → ¬ (x + 108 ≤ p ∧ p < x + 108 + 4) → p ≠ b → τ.2 p = σ.2 p) ∧ x + 108 + 4 ≤ b ∧ τ.2 (x + 108) = some (.inr (.inr (8, [.ref (x + 108 + 1), .ref (x + 108 + 2), .ref (x + 108 + 3), .ref b, .int (nI n)]))) ∧ τ.2 (x + 108 + 1) = some (.inl (0, 12, wo1)) ∧ τ.2 (x + 108 + 2) = some (.inl (0, 144, co1)) ∧ τ.2 (x + 108 + 3) = some (.inl (0, 16, ne1)) ∧ τ.2 b = some (.inl (0, 4096, be)))) = Q
  refine Ret.start pm_26 rfl ?_
  refine Ev.aload_n rfl rfl ?_
  refine Ev.iload_n rfl rfl ?_
  refine Ev.iload_n rfl rfl ?_
  refine Ev.cV2 rfl rfl hX rfl rfl (by decide) ⟨(by omega), (by omega)⟩ (going_some hX hT hw ⟨rfl, hi, rfl, hj, hgo⟩) ?_
  refine Ev.astore rfl rfl rfl ?_
  refine Ev.aload_n rfl rfl ?_
  refine Ev.getf rfl rfl hX rfl ?_
  refine Ev.iload_n rfl rfl ?_
  refine Ev.cV1 rfl rfl t0 rfl rfl (by decide) ⟨(by omega), (by omega)⟩ (schoolAt_some hT hw1 hi) ?_
  refine Ev.astore rfl rfl rfl ?_
  refine Ev.aload rfl rfl ?_
  refine Ev.iload_n rfl rfl ?_
  refine Ev.cS2 rfl rfl rfl (by decide) ⟨(by omega), (by omega)⟩ (lessonOf_some hPj h6 hkk) ?_
  refine Ev.astore rfl rfl rfl ?_
  refine Ev.aload rfl rfl ?_
  refine Ev.ifnull rfl ?_
  refine Ev.aload rfl rfl ?_
  refine Ev.ifnull rfl ?_
  refine Ev.aload rfl rfl ?_
  refine Ev.getf rfl rfl (p3 k0 (by omega)) rfl ?_
  refine Ev.cS1 rfl rfl rfl (by decide) ⟨(by omega), (by omega)⟩ (bc_ok _) ?_
  refine Ev.bipush (v := 12) rfl (by decide) ?_
  refine Ev.jle (tgt := 52) rfl (by decide) (fun c46 => ?_) (fun c46 => absurd c46 (by rw [hsm, bc_nI (by omega), pop_bcn, bcn_top hm 17 (by omega), hn]; exact nI_nlt (a := 12) hb (by omega)))
  refine Ev.iload rfl rfl ?_
  refine Ev.iconst (v := (-1)) rfl (by decide) ?_
  refine Ev.jeq (tgt := 81) rfl (by decide) (fun c55 => ?_) (fun c55 => absurd (by decide) c55)
  refine Ev.aload_n rfl rfl ?_
  refine Ev.getf rfl rfl hX rfl ?_
  refine Ev.aload rfl rfl ?_
  refine Ev.aload rfl rfl ?_
  refine Ev.getf rfl rfl (p3 k0 (by omega)) rfl ?_
  rw [hsm]
  refine Ev.callV (as := [.ref (x + 1 + 4 + 19 * i), .int (nI m)]) rfl rfl h_bn rfl rfl rfl rfl (Nat.le_of_ble_eq_true rfl) ⟨by omega, by omega⟩ (seat_ok h_bn h_who h_co h_ne hbo (by omega) hSi hwS (by omega) hm hn hb hB) (fun v3 τ3 q3 => ?_)
  obtain ⟨rfl, b, be, ne1, wo1, co1, e1, e2, e3, h_bn3, h_who3, h_co3, h_ne3, h_be3, hne⟩ := q3
  change Ev Γ 1 4096 m_SD_beside (0 + 1) (0 + 4096) 95 _ [.int (nI (B (2 ^ n - 1)))] τ3 Q
  have hX3 : τ3.2 x = _ := (e2 x (by omega) (by omega) (by omega)).trans hX
  refine Ev.istore rfl rfl rfl ?_
  refine Ev.iload rfl rfl ?_
  refine Ev.iconst (v := (-1)) rfl (by decide) ?_
  refine Ev.jne (tgt := 108) rfl (by decide) (fun c100 => absurd (by decide) c100) (fun c100 => ?_)
  refine Ev.iload rfl rfl ?_
  refine Ev.goto (tgt := 117) rfl (by decide) ?_
  refine Ev.iret (ty := .int) rfl rfl rfl (by omega) (by omega) ?_
  rw [← hQ]
  exact ⟨rfl, b, be, ne1, wo1, co1, e1, e2, e3, h_bn3, h_who3, h_co3, h_ne3, h_be3⟩
theorem beside_one {Γ : ex_G} {σ : ex_S} {x : Nat} {T : Tol} (hX : isX σ x) (hT : isT σ (x + 1) T) (hw : wT T) {u v : Int32} {i j : Nat} (hg : gd T u v i j) {k0 : Nat} (hkk : k0 < (tP T j).1) {n0 n m : Nat} {bo : Option Nat} {B : Nat → Nat} (h_bn : σ.2 (x + 108) = some (.inr (.inr (8, [.ref (x + 108 + 1), .ref (x + 108 + 2), .ref (x + 108 + 3), bbV bo, .int (nI n0)])))) {wo : Nat → Int32} (h_who : σ.2 (x + 108 + 1) = some (.inl (0, 12, wo))) {co : Nat → Int32} (h_co : σ.2 (x + 108 + 2) = some (.inl (0, 144, co))) {ne : Nat → Int32} (h_ne : σ.2 (x + 108 + 3) = some (.inl (0, 16, ne))) (hbo : ∀ b, bo = some b → (∃ f, σ.2 b = some (.inl (0, 4096, f))) ∧ x + 108 + 4 ≤ b ∧ b + 1 ≤ σ.1) (hqs : x + 134 ≤ σ.1) (hm : m < 2 ^ (tS T i).1) (hsm : (tP T j).2 k0 5 = nI m) (hn : bcn m (tS T i).1 = n) (hb : n ≤ 12) (hB : Tb n (tvS (tS T i) m) B (2 ^ n)) {l p r0 : Nat} (hl : l < (tS T i).1) (hsl : m.testBit l = true) (hpn : p < n) (hlp : wh m p = l) (hq : Prt n (tvS (tS T i) m) B (2 ^ n - 1) p r0) : Ret Γ m_SD_beside 1 4096 [.ref x, .int u, .int v, .int (nI k0), (.int (nI l))] σ (fun r τ => r = some (.int (encW n m r0)) ∧ ∃ (b : Nat) (be ne1 wo1 co1 : Nat → Int32), (bo = some b ∧ τ.1 = σ.1 ∨ bo = none ∧ b = σ.1 ∧ τ.1 = σ.1 + 1) ∧ (∀ p, p < σ.1 → ¬ (x + 108 ≤ p ∧ p < x + 108 + 4) → p ≠ b → τ.2 p = σ.2 p) ∧ x + 108 + 4 ≤ b ∧ τ.2 (x + 108) = some (.inr (.inr (8, [.ref (x + 108 + 1), .ref (x + 108 + 2), .ref (x + 108 + 3), .ref b, .int (nI n)]))) ∧ τ.2 (x + 108 + 1) = some (.inl (0, 12, wo1)) ∧ τ.2 (x + 108 + 2) = some (.inl (0, 144, co1)) ∧ τ.2 (x + 108 + 3) = some (.inl (0, 16, ne1)) ∧ τ.2 b = some (.inl (0, 4096, be))) := by
  unfold isX at hX
  obtain ⟨t0, t1, ⟨fs, t2, t3⟩, ⟨fp, t4, t5⟩, t6, t7⟩ := id hT
  obtain ⟨rfl, hi, rfl, hj, hgo⟩ := hg
  have hw1 := hw.2.1
  have hw2 := hw.2.2.1
  have hwS := hw.2.2.2.1 i hi
  have hwP := hw.2.2.2.2 j hj
  have hn16 := hwS.1
  have hn5 := hwS.2.1
  have h6 := hwP.1
  have hSi := t6 i (by omega)
  have hPj := t7 j (by omega)
  have hokL : ∀ k, k < (tP T j).1 → okL (tS T i) ((tP T j).2 k) := fun k hk => goT_okL hwS (hgo k hk).1
  obtain ⟨h0, h1, h2, h3, h4, h5, h6', h7, h8, h9, h10⟩ := id hSi
  obtain ⟨p0, ⟨pf, p1, p2⟩, p3⟩ := id hPj
  have hm16 : m < 65536 := Nat.lt_of_lt_of_le hm (p16 hn16)
  generalize hQ : ((fun (r : Option Value) (τ : ex_S) => r = some (.int (encW n m r0)) ∧ ∃ (b : Nat) (be ne1 wo1 co1 : Nat → Int32), (bo = some b ∧ τ.1 = σ.1 ∨ bo = none ∧ b = σ.1 ∧ τ.1 = σ.1 + 1) ∧ (∀ p, p < σ.1 → ¬ (x + 108 ≤ p ∧ p < x + 108 + 4) → p ≠ b → τ.2 p = σ.2 p) ∧ x + 108 + 4 ≤ b ∧ τ.2 (x + 108) = some (.inr (.inr (8, [.ref (x + 108 + 1), .ref (x + 108 + 2), .ref (x + 108 + 3), .ref b, .int (nI n)]))) ∧ τ.2 (x + 108 + 1) = some (.inl (0, 12, wo1)) ∧ τ.2 (x + 108 + 2) = some (.inl (0, 144, co1)) ∧ τ.2 (x + 108 + 3) = some (.inl (0, 16, ne1)) ∧ τ.2 b = some (.inl (0, 4096, be)))) = Q
  refine Ret.start pm_26 rfl ?_
  refine Ev.aload_n rfl rfl ?_
  refine Ev.iload_n rfl rfl ?_
  refine Ev.iload_n rfl rfl ?_
  refine Ev.cV2 rfl rfl hX rfl rfl (by decide) ⟨(by omega), (by omega)⟩ (going_some hX hT hw ⟨rfl, hi, rfl, hj, hgo⟩) ?_
  refine Ev.astore rfl rfl rfl ?_
  refine Ev.aload_n rfl rfl ?_
  refine Ev.getf rfl rfl hX rfl ?_
  refine Ev.iload_n rfl rfl ?_
  refine Ev.cV1 rfl rfl t0 rfl rfl (by decide) ⟨(by omega), (by omega)⟩ (schoolAt_some hT hw1 hi) ?_
  refine Ev.astore rfl rfl rfl ?_
  refine Ev.aload rfl rfl ?_
  refine Ev.iload_n rfl rfl ?_
  refine Ev.cS2 rfl rfl rfl (by decide) ⟨(by omega), (by omega)⟩ (lessonOf_some hPj h6 hkk) ?_
  refine Ev.astore rfl rfl rfl ?_
  refine Ev.aload rfl rfl ?_
  refine Ev.ifnull rfl ?_
  refine Ev.aload rfl rfl ?_
  refine Ev.ifnull rfl ?_
  refine Ev.aload rfl rfl ?_
  refine Ev.getf rfl rfl (p3 k0 (by omega)) rfl ?_
  refine Ev.cS1 rfl rfl rfl (by decide) ⟨(by omega), (by omega)⟩ (bc_ok _) ?_
  refine Ev.bipush (v := 12) rfl (by decide) ?_
  refine Ev.jle (tgt := 52) rfl (by decide) (fun c46 => ?_) (fun c46 => absurd c46 (by rw [hsm, bc_nI (by omega), pop_bcn, bcn_top hm 17 (by omega), hn]; exact nI_nlt (a := 12) hb (by omega)))
  refine Ev.iload rfl rfl ?_
  refine Ev.iconst (v := (-1)) rfl (by decide) ?_
  refine Ev.jeq (tgt := 81) rfl (by decide) (fun c55 => absurd c55 (nI_m1 (by omega))) (fun c55 => ?_)
  refine Ev.aload rfl rfl ?_
  refine Ev.iload rfl rfl ?_
  refine Ev.cV1 rfl rfl h0 rfl rfl (by decide) ⟨(by omega), (by omega)⟩ (has_y hSi hn16 hl) ?_
  refine Ev.zeq (tgt := 78) rfl (by decide) (fun c65 => absurd c65 (by decide)) (fun c65 => ?_)
  refine Ev.aload rfl rfl ?_
  refine Ev.iload rfl rfl ?_
  refine Ev.cV1 rfl rfl (p3 k0 (by omega)) rfl rfl (by decide) ⟨(by omega), (by omega)⟩ (lhas_ok (p3 k0 (by omega)) _) ?_
  refine Ev.zne (tgt := 81) rfl (by decide) (fun c75 => ?_) (fun c75 => absurd c75 (lhas_y hsm (by omega) (by omega) hsl))
  refine Ev.aload_n rfl rfl ?_
  refine Ev.getf rfl rfl hX rfl ?_
  refine Ev.aload rfl rfl ?_
  refine Ev.aload rfl rfl ?_
  refine Ev.getf rfl rfl (p3 k0 (by omega)) rfl ?_
  rw [hsm]
  refine Ev.callV (as := [.ref (x + 1 + 4 + 19 * i), .int (nI m)]) rfl rfl h_bn rfl rfl rfl rfl (Nat.le_of_ble_eq_true rfl) ⟨by omega, by omega⟩ (seat_ok h_bn h_who h_co h_ne hbo (by omega) hSi hwS (by omega) hm hn hb hB) (fun v3 τ3 q3 => ?_)
  obtain ⟨rfl, b, be, ne1, wo1, co1, e1, e2, e3, h_bn3, h_who3, h_co3, h_ne3, h_be3, hne⟩ := q3
  change Ev Γ 1 4096 m_SD_beside (0 + 1) (0 + 4096) 95 _ [.int (nI (B (2 ^ n - 1)))] τ3 Q
  have hX3 : τ3.2 x = _ := (e2 x (by omega) (by omega) (by omega)).trans hX
  refine Ev.istore rfl rfl rfl ?_
  refine Ev.iload rfl rfl ?_
  refine Ev.iconst (v := (-1)) rfl (by decide) ?_
  refine Ev.jne (tgt := 108) rfl (by decide) (fun c100 => ?_) (fun c100 => absurd c100 (nI_m1 (by omega)))
  refine Ev.aload_n rfl rfl ?_
  refine Ev.getf rfl rfl hX3 rfl ?_
  refine Ev.iload rfl rfl ?_
  refine Ev.cV1 rfl rfl h_bn3 rfl rfl (by decide) ⟨(by omega), (by omega)⟩ (nbOf_ok h_bn3 h_ne3 (by omega)) ?_
  refine Ev.iret (ty := .int) rfl rfl rfl (by omega) (by omega) ?_
  obtain ⟨r, r1, r2⟩ := hne p hpn
  have er := Prt_uniq r1 hq
  have ev : ne1 l = encW n m r0 := by
    rw [← hlp, ← er]
    unfold encW
    rcases r2 with ⟨r2, r3⟩ | ⟨r2, r3⟩
    · rw [if_pos r2, r3]
    · rw [if_neg (by omega), r3]
  rw [← hQ, ← ev]
  exact ⟨rfl, b, be, ne1, wo1, co1, e1, e2, e3, h_bn3, h_who3, h_co3, h_ne3, h_be3⟩
end
end
