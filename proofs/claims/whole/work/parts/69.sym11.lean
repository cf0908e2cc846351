/-! Printed by sym.py: sharing out (class). -/
noncomputable section
section
variable {Γ : ex_G} {σ : ex_S} {x q a p y : Nat} {S : Sch} {T : Tol} {P : Pln} {g A : Nat → Int32}
theorem vp_of {x : Int32} {n k : Nat} (h : x = nI k) (hk : k < n) (hn : n < 100 := by decide) : vp_in x n := by subst h; exact vp_in_nI hk (by omega)
theorem J_nat {s0 : Nat} {z : Int32} (h : J_sub s0 z) (hs : s0 < 2 ^ 31) (h0 : ¬ z < 0) : z = nI z.toNatClampNeg ∧ z.toNatClampNeg ≤ s0 := by
  rcases h with rfl | ⟨m, hm, rfl⟩
  · exact absurd (by decide) h0
  · rw [nI_clamp (by omega)]
    exact ⟨rfl, hm⟩
theorem and_nat {x w : Int32} {a : Nat} (h : x = nI a) (ha : a < 2 ^ 31) : x &&& w = nI (x &&& w).toNatClampNeg ∧ (x &&& w).toNatClampNeg ≤ a := by
  subst h
  have e : w = nI w.toBitVec.toNat := by
    apply Int32.toBitVec_inj.mp
    apply BitVec.eq_of_toNat_eq
    simp [nI]
  rw [e, and_nI (by omega) w.toBitVec.isLt]
  have h1 : a &&& w.toBitVec.toNat ≤ a := Nat.and_le_left
  rw [nI_clamp (by omega)]
  exact ⟨rfl, h1⟩
theorem pow8 {n : Nat} (h : n ≤ 8) : 2 ^ n ≤ 256 ∧ 1 ≤ 2 ^ n := ⟨Nat.pow_le_pow_right (by decide) h, Nat.one_le_two_pow⟩
theorem sub_next2 {s0 : Nat} {z : Int32} (hs : s0 < 2 ^ 31) (h : J_sub s0 z) (h0 : ¬ z < 0) : (z = 0 → J_sub s0 (-1) ∧ mu_sub (-1) < mu_sub z) ∧ (¬ z = 0 → J_sub s0 ((z - 1) &&& nI s0) ∧ mu_sub ((z - 1) &&& nI s0) < mu_sub z) ∧ J_sub s0 (z + -1) ∧ mu_sub (z + -1) < mu_sub z := by
  rcases h with rfl | ⟨m, hm, rfl⟩
  · exact absurd (by decide) h0
  · have step : ∀ q, m = q + 1 → nI m + -1 = nI q := fun q e => by rw [e]; exact pk_m1 q
    have mu0 : mu_sub (nI m) = m + 1 := by unfold mu_sub; rw [if_neg h0, nI_clamp (by omega)]
    have mun : mu_sub (-1) = 0 := by unfold mu_sub; rw [if_pos (by decide)]
    refine ⟨fun e => ⟨Or.inl rfl, by rw [mu0, mun]; omega⟩, fun e => ?_, ?_⟩
    · obtain ⟨q, rfl⟩ : ∃ q, m = q + 1 := ⟨m - 1, by
        have : m ≠ 0 := fun c => e (by rw [c]; rfl)
        omega⟩
      rw [mu0, nI_pred, and_nI (by omega) (by omega)]
      have h1 : q &&& s0 ≤ q := Nat.and_le_left
      refine ⟨Or.inr ⟨_, by omega, rfl⟩, ?_⟩
      unfold mu_sub
      rw [if_neg (nI_pos (by omega)), nI_clamp (by omega)]
      omega
    · by_cases e : m = 0
      · subst e
        rw [mu0, show nI 0 + -1 = (-1 : Int32) by decide, mun]
        exact ⟨Or.inl rfl, by omega⟩
      · obtain ⟨q, rfl⟩ : ∃ q, m = q + 1 := ⟨m - 1, by omega⟩
        rw [mu0, step q rfl]
        refine ⟨Or.inr ⟨q, by omega, rfl⟩, ?_⟩
        unfold mu_sub
        rw [if_neg (nI_pos (by omega)), nI_clamp (by omega)]
        omega
def F_begin_7 (w : Int32) (wo : Nat → Int32) : Nat → (Nat × (Nat → Int32)) → (Nat × (Nat → Int32)) ⊕ (Nat × (Nat → Int32)) := fun k z => if (nI z.1) < (8 : Int32) then (if ((w >>> ((nI k) &&& 31)) &&& (1 : Int32)) = (0 : Int32) then (.inl (z.1, z.2)) else (.inl (z.1 + 1, (upd z.2 z.1 (nI k))))) else (.inr (z.1, z.2))
def K_begin (w : Int32) (wo : Nat → Int32) : Nat × (Nat → Int32) := Sum.elim (fun (zx : Nat × (Nat → Int32)) => (zx.1, zx.2)) (fun (rx : Nat × (Nat → Int32)) => (rx.1, rx.2)) (fe (F_begin_7 w wo) (16) 0 (0, wo))
theorem begin_ok {n0 : Nat} {wo be we : Nat → Int32} (hsh : σ.2 (q) = some (.inr (.inr (7, [.ref (q + 1), .int (nI n0), .ref (q + 2), .ref (q + 3)])))) (h_who : σ.2 (q + 1) = some (.inl (0, 8, wo))) (h_best : σ.2 (q + 2) = some (.inl (0, 256, be))) (h_worth : σ.2 (q + 3) = some (.inl (0, 256, we))) (w : Int32) : RetX Γ m_Sharing_begin [(.ref q), (.int w)] σ q (q + 4) none (fun τ => τ.2 q = some (.inr (.inr (7, [(.ref (q + 1)), (.int (nI ((K_begin w wo).1))), (.ref (q + 2)), (.ref (q + 3))]))) ∧ τ.2 (q + 1) = some (.inl (0, 8, (K_begin w wo).2)) ∧ τ.2 (q + 2) = some (.inl (0, 256, be)) ∧ τ.2 (q + 3) = some (.inl (0, 256, we))) := by
  unfold RetX
  generalize hQ : (fun (r : Option Value) (τ : ex_S) => r = none ∧ frm σ τ q (q + 4) ∧ (fun τ : ex_S => τ.2 q = some (.inr (.inr (7, [(.ref (q + 1)), (.int (nI ((K_begin w wo).1))), (.ref (q + 2)), (.ref (q + 3))]))) ∧ τ.2 (q + 1) = some (.inl (0, 8, (K_begin w wo).2)) ∧ τ.2 (q + 2) = some (.inl (0, 256, be)) ∧ τ.2 (q + 3) = some (.inl (0, 256, we))) τ) = Q
  refine Ret.start pm_143 rfl ?_
  have fr : frm σ σ q (q + 4) := frm.rf
  refine Ev.aload_n rfl rfl ?_
  refine Ev.iconst (v := 0) rfl (by decide) ?_
  refine Ev.putE rfl rfl hsh rfl rfl rfl (Nat.le_of_ble_eq_true rfl) (fun τ1 f1 hsh => ?_)
  replace hsh : τ1.2 q = some (.inr (.inr (7, [(.ref (q + 1)), (.int (0 : Int32)), (.ref (q + 2)), (.ref (q + 3))]))) := hsh
  have h_who := frm.cell f1 h_who (by omega)
  have h_best := frm.cell f1 h_best (by omega)
  have h_worth := frm.cell f1 h_worth (by omega)
  have fr := fr.step f1 (by omega) (by omega)
  refine Ev.iconst (v := 0) rfl (by decide) ?_
  refine Ev.istore_n rfl rfl rfl ?_
  refine Ev.fg (L := [some (.ref q), some (.int w), some (.int (nI 0))]) ?_ (gs rfl (gs rfl (gs (congrArg Value.int (rfl : (0 : Int32) = nI 0).symm) gz)))
  refine lpe (fun (k : Nat) (z : Nat × (Nat → Int32)) => (z.1 ≤ 8) → ∀ τ' : ex_S, frm σ τ' q (q + 4) → τ'.2 q = some (.inr (.inr (7, [(.ref (q + 1)), (.int (nI z.1)), (.ref (q + 2)), (.ref (q + 3))]))) → τ'.2 (q + 1) = some (.inl (0, 8, z.2)) → τ'.2 (q + 2) = some (.inl (0, 256, be)) → τ'.2 (q + 3) = some (.inl (0, 256, we)) → Ev Γ 0 0 m_Sharing_begin 0 0 7 [some (.ref q), some (.int w), some (.int (nI k))] [] τ' Q) (fun (r : Nat × (Nat → Int32)) => ∀ τ' : ex_S, frm σ τ' q (q + 4) → τ'.2 q = some (.inr (.inr (7, [(.ref (q + 1)), (.int (nI r.1)), (.ref (q + 2)), (.ref (q + 3))]))) → τ'.2 (q + 1) = some (.inl (0, 8, r.2)) → τ'.2 (q + 2) = some (.inl (0, 256, be)) → τ'.2 (q + 3) = some (.inl (0, 256, we)) → Ev Γ 0 0 m_Sharing_begin 0 0 56 [none, none, none] [] τ' Q) (F_begin_7 w wo) (16) (fun k z hk hx he => ?_) (16) 0 (0, wo) (by omega) (fun zx hzx => ?_) (fun rx hrx => ?_) (by omega) τ1 fr hsh h_who h_best h_worth
  · skip
    intro hI
    intro τ' fr hsh h_who h_best h_worth
    refine Ev.iload_n rfl rfl ?_
    refine Ev.bipush (v := 16) rfl (by decide) ?_
    refine Ev.jge (tgt := 56) rfl (by decide) (fun c10 => absurd (nI_lt hk (by omega)) c10) (fun c10 => ?_)
    refine Ev.aload_n rfl rfl ?_
    refine Ev.getf rfl rfl hsh rfl ?_
    refine Ev.bipush (v := 8) rfl (by decide) ?_
    refine Ev.jge (tgt := 56) rfl (by decide) (fun c19 => ?_) (fun c19 => ?_)
    · skip
      have hF : (F_begin_7 w wo) k z = .inr (z.1, z.2) := by
        unfold F_begin_7
        rw [if_neg c19]
      exact (he _ hF τ' fr hsh h_who h_best h_worth).fg (gn (gn (gn gz)))
    · skip
      have hz8 := (nI_ltI (a := z.1) (b := 8) (by omega) (by decide)).mp c19
      refine Ev.iload_n rfl rfl ?_
      refine Ev.iload_n rfl rfl ?_
      refine Ev.ishr rfl ?_
      refine Ev.iconst (v := 1) rfl (by decide) ?_
      refine Ev.iand rfl ?_
      refine Ev.zeq (tgt := 50) rfl (by decide) (fun c27 => ?_) (fun c27 => ?_)
      · skip
        refine Ev.iinc (d := 1) rfl rfl rfl (by decide) rfl ?_
        refine Ev.goto (tgt := 7) rfl (by decide) ?_
        have hF : (F_begin_7 w wo) k z = .inl (z.1, z.2) := by
          unfold F_begin_7
          rw [if_pos c19]
          rw [if_pos c27]
        exact (hx _ hF (by show (z.1 ≤ 8); omega) τ' fr hsh h_who h_best h_worth).fg (gs rfl (gs rfl (gs (congrArg Value.int (show nI (k + 1) = (nI k) + (1 : Int32) from (nq_to (a := k + 1) (nq_add (a := k) (b := 1) rfl (rfl : (1 : Int32) = nI 1)) (by omega)).symm)) gz)))
      · skip
        refine Ev.aload_n rfl rfl ?_
        refine Ev.getf rfl rfl hsh rfl ?_
        refine Ev.aload_n rfl rfl ?_
        refine Ev.getf rfl rfl hsh rfl ?_
        refine Ev.iload_n rfl rfl ?_
        refine Ev.iastE (k := z.1) rfl h_who rfl ⟨(by omega), by decide⟩ (fun τ2 f1 h_who => ?_)
        have hsh := frm.cell f1 hsh (by omega)
        have h_best := frm.cell f1 h_best (by omega)
        have h_worth := frm.cell f1 h_worth (by omega)
        have fr := fr.step f1 (by omega) (by omega)
        refine Ev.aload_n rfl rfl ?_
        refine Ev.dup rfl rfl ?_
        refine Ev.getf rfl rfl hsh rfl ?_
        refine Ev.iconst (v := 1) rfl (by decide) ?_
        refine Ev.iadd rfl ?_
        rw [show (nI z.1) + (1 : Int32) = nI (z.1 + 1) from (nq_add (a := z.1) (b := 1) rfl (rfl : (1 : Int32) = nI 1))]
        refine Ev.putE rfl rfl hsh rfl rfl rfl (Nat.le_of_ble_eq_true rfl) (fun τ3 f1 hsh => ?_)
        replace hsh : τ3.2 q = some (.inr (.inr (7, [(.ref (q + 1)), (.int (nI (z.1 + 1))), (.ref (q + 2)), (.ref (q + 3))]))) := hsh
        have h_who := frm.cell f1 h_who (by omega)
        have h_best := frm.cell f1 h_best (by omega)
        have h_worth := frm.cell f1 h_worth (by omega)
        have fr := fr.step f1 (by omega) (by omega)
        refine Ev.iinc (d := 1) rfl rfl rfl (by decide) rfl ?_
        refine Ev.goto (tgt := 7) rfl (by decide) ?_
        have hF : (F_begin_7 w wo) k z = .inl (z.1 + 1, (upd z.2 z.1 (nI k))) := by
          unfold F_begin_7
          rw [if_pos c19]
          rw [if_neg c27]
        exact (hx _ hF (by show (z.1 + 1 ≤ 8); omega) τ3 fr hsh h_who h_best h_worth).fg (gs rfl (gs rfl (gs (congrArg Value.int (show nI (k + 1) = (nI k) + (1 : Int32) from (nq_to (a := k + 1) (nq_add (a := k) (b := 1) rfl (rfl : (1 : Int32) = nI 1)) (by omega)).symm)) gz)))
  · skip
    intro hI
    intro τ' fr hsh h_who h_best h_worth
    refine Ev.iload_n rfl rfl ?_
    refine Ev.bipush (v := 16) rfl (by decide) ?_
    refine Ev.jge (tgt := 56) rfl (by decide) (fun c10 => ?_) (fun c10 => absurd c10 (nI_nlt (Nat.le_refl _) (by omega)))
    refine Ev.ret rfl rfl (Nat.le_refl _) (Nat.le_refl _) ?_
    have hK : (K_begin w wo) = (zx.1, zx.2) := by
      unfold K_begin
      rw [hzx, Sum.elim_inl]
    rw [← hQ]
    dsimp only
    rw [hK]
    exact ⟨rfl, fr, hsh, h_who, h_best, h_worth⟩
  · skip
    intro hI
    intro τ' fr hsh h_who h_best h_worth
    refine Ev.ret rfl rfl (Nat.le_refl _) (Nat.le_refl _) ?_
    have hK : (K_begin w wo) = (rx.1, rx.2) := by
      unfold K_begin
      rw [hrx, Sum.elim_inr]
    rw [← hQ]
    dsimp only
    rw [hK]
    exact ⟨rfl, fr, hsh, h_who, h_best, h_worth⟩
theorem begin_le (w : Int32) (wo : Nat → Int32) : (K_begin w wo).1 ≤ 8 := by
  obtain ⟨a, b⟩ := fe_inv (F := F_begin_7 w wo) (fun _ z => z.1 ≤ 8) (fun r => r.1 ≤ 8) 16 0 (0, wo) (by decide) (fun j z _ _ hz => by
    have hz : z.1 ≤ 8 := hz
    unfold F_begin_7
    by_cases c : nI z.1 < (8 : Int32)
    · have hz8 := (nI_ltI (a := z.1) (b := 8) (by omega) (by decide)).mp c
      rw [if_pos c]
      refine ⟨fun z' e => ?_, fun r e => ?_⟩
      · split at e
        · cases e; exact hz
        · cases e; show z.1 + 1 ≤ 8; omega
      · split at e <;> cases e
    · rw [if_neg c]
      exact ⟨fun z' e => by cases e, fun r e => by cases e; exact hz⟩)
  unfold K_begin
  rcases hf : fe (F_begin_7 w wo) 16 0 (0, wo) with z | r
  · rw [Sum.elim_inl]; exact a z hf
  · rw [Sum.elim_inr]; exact b r hf
def F_rank_4 (n : Nat) (w : Int32) : Nat → Int32 → Int32 := fun k z => z + (((w >>> ((nI k) &&& 31)) &&& (1 : Int32)) <<< (((2 : Int32) * ((7 : Int32) - (nI k))) &&& 31))
def K_rank (n : Nat) (w : Int32) : Int32 := (fo (F_rank_4 n w) (n) 0 (0 : Int32))
theorem rank_ok {n : Nat} {wo be we : Nat → Int32} (hsh : σ.2 (q) = some (.inr (.inr (7, [.ref (q + 1), .int (nI n), .ref (q + 2), .ref (q + 3)])))) (h_who : σ.2 (q + 1) = some (.inl (0, 8, wo))) (h_best : σ.2 (q + 2) = some (.inl (0, 256, be))) (h_worth : σ.2 (q + 3) = some (.inl (0, 256, we))) (hn8 : n ≤ 8) (w : Int32) : RetV Γ m_Sharing_rank [(.ref q), (.int w)] σ (.int (K_rank n w)) := by
  unfold RetV
  generalize hQ : (fun (r : Option Value) (σ' : ex_S) => r = some ((.int (K_rank n w)) : Value) ∧ σ' = σ) = Q
  refine Ret.start pm_145 rfl ?_
  refine Ev.iconst (v := 0) rfl (by decide) ?_
  refine Ev.istore_n rfl rfl rfl ?_
  refine Ev.iconst (v := 0) rfl (by decide) ?_
  refine Ev.istore_n rfl rfl rfl ?_
  refine Ev.fg (L := [some (.ref q), some (.int w), some (.int (0 : Int32)), some (.int (nI 0))]) ?_ (gs rfl (gs rfl (gs rfl (gs (congrArg Value.int (rfl : (0 : Int32) = nI 0).symm) gz))))
  refine lp (fun (k : Nat) (z : Int32) => Ev Γ 0 0 m_Sharing_rank 0 0 4 [some (.ref q), some (.int w), some (.int z), some (.int (nI k))] [] σ Q) (F_rank_4 n w) (n) (fun k z hk hx => ?_) (n) 0 (0 : Int32) (by omega) ?_
  · skip
    refine Ev.iload_n rfl rfl ?_
    refine Ev.aload_n rfl rfl ?_
    refine Ev.getf rfl rfl hsh rfl ?_
    refine Ev.jge (tgt := 33) rfl (by decide) (fun c9 => absurd (nI_lt hk (by omega)) c9) (fun c9 => ?_)
    refine Ev.iload_n rfl rfl ?_
    refine Ev.iload_n rfl rfl ?_
    refine Ev.iload_n rfl rfl ?_
    refine Ev.ishr rfl ?_
    refine Ev.iconst (v := 1) rfl (by decide) ?_
    refine Ev.iand rfl ?_
    refine Ev.iconst (v := 2) rfl (by decide) ?_
    refine Ev.bipush (v := 7) rfl (by decide) ?_
    refine Ev.iload_n rfl rfl ?_
    refine Ev.isub rfl ?_
    refine Ev.imul rfl ?_
    refine Ev.ishl rfl ?_
    refine Ev.iadd rfl ?_
    refine Ev.istore_n rfl rfl rfl ?_
    refine Ev.iinc (d := 1) rfl rfl rfl (by decide) rfl ?_
    refine Ev.goto (tgt := 4) rfl (by decide) ?_
    have hF : (F_rank_4 n w) k z = z + (((w >>> ((nI k) &&& 31)) &&& (1 : Int32)) <<< (((2 : Int32) * ((7 : Int32) - (nI k))) &&& 31)) := by rfl
    rw [hF] at hx
    exact hx.fg (gs rfl (gs rfl (gs rfl (gs (congrArg Value.int (show nI (k + 1) = (nI k) + (1 : Int32) from (nq_to (a := k + 1) (nq_add (a := k) (b := 1) rfl (rfl : (1 : Int32) = nI 1)) (by omega)).symm)) gz))))
  · skip
    refine Ev.iload_n rfl rfl ?_
    refine Ev.aload_n rfl rfl ?_
    refine Ev.getf rfl rfl hsh rfl ?_
    refine Ev.jge (tgt := 33) rfl (by decide) (fun c9 => ?_) (fun c9 => absurd c9 (nI_nlt (Nat.le_refl _) (by omega)))
    refine Ev.iload_n rfl rfl ?_
    refine Ev.iret (ty := .int) rfl rfl rfl (Nat.le_refl _) (Nat.le_refl _) ?_
    rw [← hQ]
    refine ⟨congrArg (fun v => some (Value.int v)) (Eq.symm ?_), rfl⟩
    rfl
def F_lOf_4 (n : Nat) (wo : Nat → Int32) (w : Int32) : Nat → Int32 → Int32 := fun k z => z ||| (((w >>> ((nI k) &&& 31)) &&& (1 : Int32)) <<< ((wo k) &&& 31))
def K_lOf (n : Nat) (wo : Nat → Int32) (w : Int32) : Int32 := (fo (F_lOf_4 n wo w) (n) 0 (0 : Int32))
theorem lOf_ok {n : Nat} {wo be we : Nat → Int32} (hsh : σ.2 (q) = some (.inr (.inr (7, [.ref (q + 1), .int (nI n), .ref (q + 2), .ref (q + 3)])))) (h_who : σ.2 (q + 1) = some (.inl (0, 8, wo))) (h_best : σ.2 (q + 2) = some (.inl (0, 256, be))) (h_worth : σ.2 (q + 3) = some (.inl (0, 256, we))) (hn8 : n ≤ 8) (w : Int32) : RetV Γ m_Sharing_learnersOf [(.ref q), (.int w)] σ (.int (K_lOf n wo w)) := by
  unfold RetV
  generalize hQ : (fun (r : Option Value) (σ' : ex_S) => r = some ((.int (K_lOf n wo w)) : Value) ∧ σ' = σ) = Q
  refine Ret.start pm_146 rfl ?_
  refine Ev.iconst (v := 0) rfl (by decide) ?_
  refine Ev.istore_n rfl rfl rfl ?_
  refine Ev.iconst (v := 0) rfl (by decide) ?_
  refine Ev.istore_n rfl rfl rfl ?_
  refine Ev.fg (L := [some (.ref q), some (.int w), some (.int (0 : Int32)), some (.int (nI 0))]) ?_ (gs rfl (gs rfl (gs rfl (gs (congrArg Value.int (rfl : (0 : Int32) = nI 0).symm) gz))))
  refine lp (fun (k : Nat) (z : Int32) => Ev Γ 0 0 m_Sharing_learnersOf 0 0 4 [some (.ref q), some (.int w), some (.int z), some (.int (nI k))] [] σ Q) (F_lOf_4 n wo w) (n) (fun k z hk hx => ?_) (n) 0 (0 : Int32) (by omega) ?_
  · skip
    refine Ev.iload_n rfl rfl ?_
    refine Ev.aload_n rfl rfl ?_
    refine Ev.getf rfl rfl hsh rfl ?_
    refine Ev.jge (tgt := 33) rfl (by decide) (fun c9 => absurd (nI_lt hk (by omega)) c9) (fun c9 => ?_)
    refine Ev.iload_n rfl rfl ?_
    refine Ev.iload_n rfl rfl ?_
    refine Ev.iload_n rfl rfl ?_
    refine Ev.ishr rfl ?_
    refine Ev.iconst (v := 1) rfl (by decide) ?_
    refine Ev.iand rfl ?_
    refine Ev.aload_n rfl rfl ?_
    refine Ev.getf rfl rfl hsh rfl ?_
    refine Ev.iload_n rfl rfl ?_
    refine Ev.ialdN (k := k) rfl h_who rfl ⟨(by omega), by decide⟩ ?_
    refine Ev.ishl rfl ?_
    refine Ev.ior rfl ?_
    refine Ev.istore_n rfl rfl rfl ?_
    refine Ev.iinc (d := 1) rfl rfl rfl (by decide) rfl ?_
    refine Ev.goto (tgt := 4) rfl (by decide) ?_
    have hF : (F_lOf_4 n wo w) k z = z ||| (((w >>> ((nI k) &&& 31)) &&& (1 : Int32)) <<< ((wo k) &&& 31)) := by rfl
    rw [hF] at hx
    exact hx.fg (gs rfl (gs rfl (gs rfl (gs (congrArg Value.int (show nI (k + 1) = (nI k) + (1 : Int32) from (nq_to (a := k + 1) (nq_add (a := k) (b := 1) rfl (rfl : (1 : Int32) = nI 1)) (by omega)).symm)) gz))))
  · skip
    refine Ev.iload_n rfl rfl ?_
    refine Ev.aload_n rfl rfl ?_
    refine Ev.getf rfl rfl hsh rfl ?_
    refine Ev.jge (tgt := 33) rfl (by decide) (fun c9 => ?_) (fun c9 => absurd c9 (nI_nlt (Nat.le_refl _) (by omega)))
    refine Ev.iload_n rfl rfl ?_
    refine Ev.iret (ty := .int) rfl rfl rfl (Nat.le_refl _) (Nat.le_refl _) ?_
    rw [← hQ]
    refine ⟨congrArg (fun v => some (Value.int v)) (Eq.symm ?_), rfl⟩
    rfl
def F_maySit_34 (S : Sch) (C : Les) (w : Int32) : Nat → Unit → (Unit) ⊕ Int32 := fun k z => if ((S.2.2 3) k) = (-1 : Int32) then (if ((w >>> ((nI k) &&& 31)) &&& (1 : Int32)) = (0 : Int32) then (.inl ()) else (if (K_can S C (nI k)) = (0 : Int32) then (.inr (0 : Int32)) else (.inl ()))) else (if ((w >>> (((S.2.2 3) k) &&& 31)) &&& (1 : Int32)) = (0 : Int32) then (if ((w >>> ((nI k) &&& 31)) &&& (1 : Int32)) = (0 : Int32) then (.inl ()) else (.inr (0 : Int32))) else (if ((w >>> ((nI k) &&& 31)) &&& (1 : Int32)) = (0 : Int32) then (.inl ()) else (if (K_can S C (nI k)) = (0 : Int32) then (.inr (0 : Int32)) else (.inl ()))))
def K_maySit (S : Sch) (C : Les) (w : Int32) : Int32 := if (K_bc w) = (0 : Int32) then (Sum.elim (fun (zx : Unit) => (1 : Int32)) (fun (rx : Int32) => rx) (fe (F_maySit_34 S C w) (S.1) 0 ())) else (if (K_bc w) < ((S.2.2 9) 2) then (0 : Int32) else (if ((S.2.2 9) 3) < (K_bc w) then (0 : Int32) else (Sum.elim (fun (zx : Unit) => (1 : Int32)) (fun (rx : Int32) => rx) (fe (F_maySit_34 S C w) (S.1) 0 ()))))
theorem maySit_ok {c : Nat} {C : Les} (hS : isS σ a S) (hC : isL σ c C) (hn16 : S.1 ≤ 16) (w : Int32) : RetV Γ m_Sharing_maySit [(.ref a), (.ref c), (.int w)] σ (.int (K_maySit S C w)) := by
  obtain ⟨h0, h1, h2, h3, h4, h5, h6', h7, h8, h9, h10⟩ := id hS
  unfold RetV
  generalize hQ : (fun (r : Option Value) (σ' : ex_S) => r = some ((.int (K_maySit S C w)) : Value) ∧ σ' = σ) = Q
  refine Ret.start pm_147 rfl ?_
  refine Ev.iload_n rfl rfl ?_
  refine Ev.cS1 rfl rfl rfl (by decide) ⟨(Nat.le_refl _), (Nat.le_refl _)⟩ (bc_ok _) ?_
  refine Ev.istore_n rfl rfl rfl ?_
  refine Ev.iload_n rfl rfl ?_
  refine Ev.zeq (tgt := 31) rfl (by decide) (fun c6 => ?_) (fun c6 => ?_)
  · skip
    refine Ev.iconst (v := 0) rfl (by decide) ?_
    refine Ev.istore rfl rfl rfl ?_
    refine Ev.fg (L := [some (.ref a), some (.ref c), some (.int w), none, some (.int (nI 0)), none, none]) ?_ (gs rfl (gs rfl (gs rfl (gn (gs (congrArg Value.int (rfl : (0 : Int32) = nI 0).symm) (gn (gn gz)))))))
    refine lpe (fun (k : Nat) (z : Unit) => Ev Γ 0 0 m_Sharing_maySit 0 0 34 [some (.ref a), some (.ref c), some (.int w), none, some (.int (nI k)), none, none] [] σ Q) (fun (r : Int32) => Q (some (.int r)) σ) (F_maySit_34 S C w) (S.1) (fun k z hk hx he => ?_) (S.1) 0 () (by omega) (fun zx hzx => ?_) (fun rx hrx => ?_)
    · skip
      refine Ev.iload rfl rfl ?_
      refine Ev.aload_n rfl rfl ?_
      refine Ev.getf rfl rfl h0 rfl ?_
      refine Ev.jge (tgt := 106) rfl (by decide) (fun c40 => absurd (nI_lt hk (by omega)) c40) (fun c40 => ?_)
      refine Ev.aload_n rfl rfl ?_
      refine Ev.getf rfl rfl h0 rfl ?_
      refine Ev.iload rfl rfl ?_
      refine Ev.ialdN (k := k) rfl h4 rfl ⟨(by omega), by decide⟩ ?_
      refine Ev.istore rfl rfl rfl ?_
      refine Ev.iload rfl rfl ?_
      refine Ev.iconst (v := (-1)) rfl (by decide) ?_
      refine Ev.jeq (tgt := 71) rfl (by decide) (fun c55 => ?_) (fun c55 => ?_)
      · skip
        refine Ev.iconst (v := 0) rfl (by decide) ?_
        refine Ev.istore rfl rfl rfl ?_
        refine Ev.iload_n rfl rfl ?_
        refine Ev.iload rfl rfl ?_
        refine Ev.ishr rfl ?_
        refine Ev.iconst (v := 1) rfl (by decide) ?_
        refine Ev.iand rfl ?_
        refine Ev.zeq (tgt := 100) rfl (by decide) (fun c80 => ?_) (fun c80 => ?_)
        · skip
          refine Ev.iinc (d := 1) rfl rfl rfl (by decide) rfl ?_
          refine Ev.goto (tgt := 34) rfl (by decide) ?_
          have hF : (F_maySit_34 S C w) k z = .inl () := by
            unfold F_maySit_34
            rw [if_pos c55]
            rw [if_pos c80]
          exact (hx _ hF).fg (gs rfl (gs rfl (gs rfl (gn (gs (congrArg Value.int (show nI (k + 1) = (nI k) + (1 : Int32) from (nq_to (a := k + 1) (nq_add (a := k) (b := 1) rfl (rfl : (1 : Int32) = nI 1)) (by omega)).symm)) (gn (gn gz)))))))
        · skip
          refine Ev.iload rfl rfl ?_
          refine Ev.zne (tgt := 98) rfl (by decide) (fun c85 => absurd (by decide) c85) (fun c85 => ?_)
          refine Ev.aload_n rfl rfl ?_
          refine Ev.aload_n rfl rfl ?_
          refine Ev.iload rfl rfl ?_
          refine Ev.cV2 rfl rfl h0 rfl rfl (by decide) ⟨(Nat.le_refl _), (Nat.le_refl _)⟩ (can_ok hS hC _ (kd_in (by omega) (by decide))) ?_
          refine Ev.zne (tgt := 100) rfl (by decide) (fun c95 => ?_) (fun c95 => ?_)
          · skip
            refine Ev.iinc (d := 1) rfl rfl rfl (by decide) rfl ?_
            refine Ev.goto (tgt := 34) rfl (by decide) ?_
            have hF : (F_maySit_34 S C w) k z = .inl () := by
              unfold F_maySit_34
              rw [if_pos c55]
              rw [if_neg c80]
              rw [if_neg c95]
            exact (hx _ hF).fg (gs rfl (gs rfl (gs rfl (gn (gs (congrArg Value.int (show nI (k + 1) = (nI k) + (1 : Int32) from (nq_to (a := k + 1) (nq_add (a := k) (b := 1) rfl (rfl : (1 : Int32) = nI 1)) (by omega)).symm)) (gn (gn gz)))))))
          · skip
            refine Ev.iconst (v := 0) rfl (by decide) ?_
            refine Ev.iret (ty := .boolean) rfl rfl rfl (Nat.le_refl _) (Nat.le_refl _) ?_
            refine he _ ?_
            unfold F_maySit_34
            rw [if_pos c55]
            rw [if_neg c80]
            rw [if_pos c95]
      · skip
        refine Ev.iload_n rfl rfl ?_
        refine Ev.iload rfl rfl ?_
        refine Ev.ishr rfl ?_
        refine Ev.iconst (v := 1) rfl (by decide) ?_
        refine Ev.iand rfl ?_
        refine Ev.zne (tgt := 71) rfl (by decide) (fun c64 => ?_) (fun c64 => ?_)
        · skip
          refine Ev.iconst (v := 0) rfl (by decide) ?_
          refine Ev.istore rfl rfl rfl ?_
          refine Ev.iload_n rfl rfl ?_
          refine Ev.iload rfl rfl ?_
          refine Ev.ishr rfl ?_
          refine Ev.iconst (v := 1) rfl (by decide) ?_
          refine Ev.iand rfl ?_
          refine Ev.zeq (tgt := 100) rfl (by decide) (fun c80 => ?_) (fun c80 => ?_)
          · skip
            refine Ev.iinc (d := 1) rfl rfl rfl (by decide) rfl ?_
            refine Ev.goto (tgt := 34) rfl (by decide) ?_
            have hF : (F_maySit_34 S C w) k z = .inl () := by
              unfold F_maySit_34
              rw [if_neg c55]
              rw [if_neg c64]
              rw [if_pos c80]
            exact (hx _ hF).fg (gs rfl (gs rfl (gs rfl (gn (gs (congrArg Value.int (show nI (k + 1) = (nI k) + (1 : Int32) from (nq_to (a := k + 1) (nq_add (a := k) (b := 1) rfl (rfl : (1 : Int32) = nI 1)) (by omega)).symm)) (gn (gn gz)))))))
          · skip
            refine Ev.iload rfl rfl ?_
            refine Ev.zne (tgt := 98) rfl (by decide) (fun c85 => absurd (by decide) c85) (fun c85 => ?_)
            refine Ev.aload_n rfl rfl ?_
            refine Ev.aload_n rfl rfl ?_
            refine Ev.iload rfl rfl ?_
            refine Ev.cV2 rfl rfl h0 rfl rfl (by decide) ⟨(Nat.le_refl _), (Nat.le_refl _)⟩ (can_ok hS hC _ (kd_in (by omega) (by decide))) ?_
            refine Ev.zne (tgt := 100) rfl (by decide) (fun c95 => ?_) (fun c95 => ?_)
            · skip
              refine Ev.iinc (d := 1) rfl rfl rfl (by decide) rfl ?_
              refine Ev.goto (tgt := 34) rfl (by decide) ?_
              have hF : (F_maySit_34 S C w) k z = .inl () := by
                unfold F_maySit_34
                rw [if_neg c55]
                rw [if_neg c64]
                rw [if_neg c80]
                rw [if_neg c95]
              exact (hx _ hF).fg (gs rfl (gs rfl (gs rfl (gn (gs (congrArg Value.int (show nI (k + 1) = (nI k) + (1 : Int32) from (nq_to (a := k + 1) (nq_add (a := k) (b := 1) rfl (rfl : (1 : Int32) = nI 1)) (by omega)).symm)) (gn (gn gz)))))))
            · skip
              refine Ev.iconst (v := 0) rfl (by decide) ?_
              refine Ev.iret (ty := .boolean) rfl rfl rfl (Nat.le_refl _) (Nat.le_refl _) ?_
              refine he _ ?_
              unfold F_maySit_34
              rw [if_neg c55]
              rw [if_neg c64]
              rw [if_neg c80]
              rw [if_pos c95]
        · skip
          refine Ev.iconst (v := 1) rfl (by decide) ?_
          refine Ev.goto (tgt := 72) rfl (by decide) ?_
          refine Ev.istore rfl rfl rfl ?_
          refine Ev.iload_n rfl rfl ?_
          refine Ev.iload rfl rfl ?_
          refine Ev.ishr rfl ?_
          refine Ev.iconst (v := 1) rfl (by decide) ?_
          refine Ev.iand rfl ?_
          refine Ev.zeq (tgt := 100) rfl (by decide) (fun c80 => ?_) (fun c80 => ?_)
          · skip
            refine Ev.iinc (d := 1) rfl rfl rfl (by decide) rfl ?_
            refine Ev.goto (tgt := 34) rfl (by decide) ?_
            have hF : (F_maySit_34 S C w) k z = .inl () := by
              unfold F_maySit_34
              rw [if_neg c55]
              rw [if_pos c64]
              rw [if_pos c80]
            exact (hx _ hF).fg (gs rfl (gs rfl (gs rfl (gn (gs (congrArg Value.int (show nI (k + 1) = (nI k) + (1 : Int32) from (nq_to (a := k + 1) (nq_add (a := k) (b := 1) rfl (rfl : (1 : Int32) = nI 1)) (by omega)).symm)) (gn (gn gz)))))))
          · skip
            refine Ev.iload rfl rfl ?_
            refine Ev.zne (tgt := 98) rfl (by decide) (fun c85 => ?_) (fun c85 => absurd c85 (by decide))
            refine Ev.iconst (v := 0) rfl (by decide) ?_
            refine Ev.iret (ty := .boolean) rfl rfl rfl (Nat.le_refl _) (Nat.le_refl _) ?_
            refine he _ ?_
            unfold F_maySit_34
            rw [if_neg c55]
            rw [if_pos c64]
            rw [if_neg c80]
    · skip
      refine Ev.iload rfl rfl ?_
      refine Ev.aload_n rfl rfl ?_
      refine Ev.getf rfl rfl h0 rfl ?_
      refine Ev.jge (tgt := 106) rfl (by decide) (fun c40 => ?_) (fun c40 => absurd c40 (nI_nlt (Nat.le_refl _) (by omega)))
      refine Ev.iconst (v := 1) rfl (by decide) ?_
      refine Ev.iret (ty := .boolean) rfl rfl rfl (Nat.le_refl _) (Nat.le_refl _) ?_
      rw [← hQ]
      refine ⟨congrArg (fun v => some (Value.int v)) (Eq.symm ?_), rfl⟩
      unfold K_maySit
      rw [if_pos c6]
      rw [hzx, Sum.elim_inl]
    · skip
      rw [← hQ]
      refine ⟨congrArg (fun v => some (Value.int v)) (Eq.symm ?_), rfl⟩
      unfold K_maySit
      rw [if_pos c6]
      rw [hrx, Sum.elim_inr]
  · skip
    refine Ev.iload_n rfl rfl ?_
    refine Ev.aload_n rfl rfl ?_
    refine Ev.getf rfl rfl h0 rfl ?_
    refine Ev.iconst (v := 2) rfl (by decide) ?_
    refine Ev.ialdN (k := 2) rfl h10 (rfl : (2 : Int32) = nI 2) ⟨(by omega), by decide⟩ ?_
    refine Ev.jlt (tgt := 29) rfl (by decide) (fun c16 => ?_) (fun c16 => ?_)
    · skip
      refine Ev.iconst (v := 0) rfl (by decide) ?_
      refine Ev.iret (ty := .boolean) rfl rfl rfl (Nat.le_refl _) (Nat.le_refl _) ?_
      rw [← hQ]
      refine ⟨congrArg (fun v => some (Value.int v)) (Eq.symm ?_), rfl⟩
      unfold K_maySit
      rw [if_neg c6]
      rw [if_pos c16]
    · skip
      refine Ev.iload_n rfl rfl ?_
      refine Ev.aload_n rfl rfl ?_
      refine Ev.getf rfl rfl h0 rfl ?_
      refine Ev.iconst (v := 3) rfl (by decide) ?_
      refine Ev.ialdN (k := 3) rfl h10 (rfl : (3 : Int32) = nI 3) ⟨(by omega), by decide⟩ ?_
      refine Ev.jle (tgt := 31) rfl (by decide) (fun c26 => ?_) (fun c26 => ?_)
      · skip
        refine Ev.iconst (v := 0) rfl (by decide) ?_
        refine Ev.istore rfl rfl rfl ?_
        refine Ev.fg (L := [some (.ref a), some (.ref c), some (.int w), none, some (.int (nI 0)), none, none]) ?_ (gs rfl (gs rfl (gs rfl (gn (gs (congrArg Value.int (rfl : (0 : Int32) = nI 0).symm) (gn (gn gz)))))))
        refine lpe (fun (k : Nat) (z : Unit) => Ev Γ 0 0 m_Sharing_maySit 0 0 34 [some (.ref a), some (.ref c), some (.int w), none, some (.int (nI k)), none, none] [] σ Q) (fun (r : Int32) => Q (some (.int r)) σ) (F_maySit_34 S C w) (S.1) (fun k z hk hx he => ?_) (S.1) 0 () (by omega) (fun zx hzx => ?_) (fun rx hrx => ?_)
        · skip
          refine Ev.iload rfl rfl ?_
          refine Ev.aload_n rfl rfl ?_
          refine Ev.getf rfl rfl h0 rfl ?_
          refine Ev.jge (tgt := 106) rfl (by decide) (fun c40 => absurd (nI_lt hk (by omega)) c40) (fun c40 => ?_)
          refine Ev.aload_n rfl rfl ?_
          refine Ev.getf rfl rfl h0 rfl ?_
          refine Ev.iload rfl rfl ?_
          refine Ev.ialdN (k := k) rfl h4 rfl ⟨(by omega), by decide⟩ ?_
          refine Ev.istore rfl rfl rfl ?_
          refine Ev.iload rfl rfl ?_
          refine Ev.iconst (v := (-1)) rfl (by decide) ?_
          refine Ev.jeq (tgt := 71) rfl (by decide) (fun c55 => ?_) (fun c55 => ?_)
          · skip
            refine Ev.iconst (v := 0) rfl (by decide) ?_
            refine Ev.istore rfl rfl rfl ?_
            refine Ev.iload_n rfl rfl ?_
            refine Ev.iload rfl rfl ?_
            refine Ev.ishr rfl ?_
            refine Ev.iconst (v := 1) rfl (by decide) ?_
            refine Ev.iand rfl ?_
            refine Ev.zeq (tgt := 100) rfl (by decide) (fun c80 => ?_) (fun c80 => ?_)
            · skip
              refine Ev.iinc (d := 1) rfl rfl rfl (by decide) rfl ?_
              refine Ev.goto (tgt := 34) rfl (by decide) ?_
              have hF : (F_maySit_34 S C w) k z = .inl () := by
                unfold F_maySit_34
                rw [if_pos c55]
                rw [if_pos c80]
              exact (hx _ hF).fg (gs rfl (gs rfl (gs rfl (gn (gs (congrArg Value.int (show nI (k + 1) = (nI k) + (1 : Int32) from (nq_to (a := k + 1) (nq_add (a := k) (b := 1) rfl (rfl : (1 : Int32) = nI 1)) (by omega)).symm)) (gn (gn gz)))))))
            · skip
              refine Ev.iload rfl rfl ?_
              refine Ev.zne (tgt := 98) rfl (by decide) (fun c85 => absurd (by decide) c85) (fun c85 => ?_)
              refine Ev.aload_n rfl rfl ?_
              refine Ev.aload_n rfl rfl ?_
              refine Ev.iload rfl rfl ?_
              refine Ev.cV2 rfl rfl h0 rfl rfl (by decide) ⟨(Nat.le_refl _), (Nat.le_refl _)⟩ (can_ok hS hC _ (kd_in (by omega) (by decide))) ?_
              refine Ev.zne (tgt := 100) rfl (by decide) (fun c95 => ?_) (fun c95 => ?_)
              · skip
                refine Ev.iinc (d := 1) rfl rfl rfl (by decide) rfl ?_
                refine Ev.goto (tgt := 34) rfl (by decide) ?_
                have hF : (F_maySit_34 S C w) k z = .inl () := by
                  unfold F_maySit_34
                  rw [if_pos c55]
                  rw [if_neg c80]
                  rw [if_neg c95]
                exact (hx _ hF).fg (gs rfl (gs rfl (gs rfl (gn (gs (congrArg Value.int (show nI (k + 1) = (nI k) + (1 : Int32) from (nq_to (a := k + 1) (nq_add (a := k) (b := 1) rfl (rfl : (1 : Int32) = nI 1)) (by omega)).symm)) (gn (gn gz)))))))
              · skip
                refine Ev.iconst (v := 0) rfl (by decide) ?_
                refine Ev.iret (ty := .boolean) rfl rfl rfl (Nat.le_refl _) (Nat.le_refl _) ?_
                refine he _ ?_
                unfold F_maySit_34
                rw [if_pos c55]
                rw [if_neg c80]
                rw [if_pos c95]
          · skip
            refine Ev.iload_n rfl rfl ?_
            refine Ev.iload rfl rfl ?_
            refine Ev.ishr rfl ?_
            refine Ev.iconst (v := 1) rfl (by decide) ?_
            refine Ev.iand rfl ?_
            refine Ev.zne (tgt := 71) rfl (by decide) (fun c64 => ?_) (fun c64 => ?_)
            · skip
              refine Ev.iconst (v := 0) rfl (by decide) ?_
              refine Ev.istore rfl rfl rfl ?_
              refine Ev.iload_n rfl rfl ?_
              refine Ev.iload rfl rfl ?_
              refine Ev.ishr rfl ?_
              refine Ev.iconst (v := 1) rfl (by decide) ?_
              refine Ev.iand rfl ?_
              refine Ev.zeq (tgt := 100) rfl (by decide) (fun c80 => ?_) (fun c80 => ?_)
              · skip
                refine Ev.iinc (d := 1) rfl rfl rfl (by decide) rfl ?_
                refine Ev.goto (tgt := 34) rfl (by decide) ?_
                have hF : (F_maySit_34 S C w) k z = .inl () := by
                  unfold F_maySit_34
                  rw [if_neg c55]
                  rw [if_neg c64]
                  rw [if_pos c80]
                exact (hx _ hF).fg (gs rfl (gs rfl (gs rfl (gn (gs (congrArg Value.int (show nI (k + 1) = (nI k) + (1 : Int32) from (nq_to (a := k + 1) (nq_add (a := k) (b := 1) rfl (rfl : (1 : Int32) = nI 1)) (by omega)).symm)) (gn (gn gz)))))))
              · skip
                refine Ev.iload rfl rfl ?_
                refine Ev.zne (tgt := 98) rfl (by decide) (fun c85 => absurd (by decide) c85) (fun c85 => ?_)
                refine Ev.aload_n rfl rfl ?_
                refine Ev.aload_n rfl rfl ?_
                refine Ev.iload rfl rfl ?_
                refine Ev.cV2 rfl rfl h0 rfl rfl (by decide) ⟨(Nat.le_refl _), (Nat.le_refl _)⟩ (can_ok hS hC _ (kd_in (by omega) (by decide))) ?_
                refine Ev.zne (tgt := 100) rfl (by decide) (fun c95 => ?_) (fun c95 => ?_)
                · skip
                  refine Ev.iinc (d := 1) rfl rfl rfl (by decide) rfl ?_
                  refine Ev.goto (tgt := 34) rfl (by decide) ?_
                  have hF : (F_maySit_34 S C w) k z = .inl () := by
                    unfold F_maySit_34
                    rw [if_neg c55]
                    rw [if_neg c64]
                    rw [if_neg c80]
                    rw [if_neg c95]
                  exact (hx _ hF).fg (gs rfl (gs rfl (gs rfl (gn (gs (congrArg Value.int (show nI (k + 1) = (nI k) + (1 : Int32) from (nq_to (a := k + 1) (nq_add (a := k) (b := 1) rfl (rfl : (1 : Int32) = nI 1)) (by omega)).symm)) (gn (gn gz)))))))
                · skip
                  refine Ev.iconst (v := 0) rfl (by decide) ?_
                  refine Ev.iret (ty := .boolean) rfl rfl rfl (Nat.le_refl _) (Nat.le_refl _) ?_
                  refine he _ ?_
                  unfold F_maySit_34
                  rw [if_neg c55]
                  rw [if_neg c64]
                  rw [if_neg c80]
                  rw [if_pos c95]
            · skip
              refine Ev.iconst (v := 1) rfl (by decide) ?_
              refine Ev.goto (tgt := 72) rfl (by decide) ?_
              refine Ev.istore rfl rfl rfl ?_
              refine Ev.iload_n rfl rfl ?_
              refine Ev.iload rfl rfl ?_
              refine Ev.ishr rfl ?_
              refine Ev.iconst (v := 1) rfl (by decide) ?_
              refine Ev.iand rfl ?_
              refine Ev.zeq (tgt := 100) rfl (by decide) (fun c80 => ?_) (fun c80 => ?_)
              · skip
                refine Ev.iinc (d := 1) rfl rfl rfl (by decide) rfl ?_
                refine Ev.goto (tgt := 34) rfl (by decide) ?_
                have hF : (F_maySit_34 S C w) k z = .inl () := by
                  unfold F_maySit_34
                  rw [if_neg c55]
                  rw [if_pos c64]
                  rw [if_pos c80]
                exact (hx _ hF).fg (gs rfl (gs rfl (gs rfl (gn (gs (congrArg Value.int (show nI (k + 1) = (nI k) + (1 : Int32) from (nq_to (a := k + 1) (nq_add (a := k) (b := 1) rfl (rfl : (1 : Int32) = nI 1)) (by omega)).symm)) (gn (gn gz)))))))
              · skip
                refine Ev.iload rfl rfl ?_
                refine Ev.zne (tgt := 98) rfl (by decide) (fun c85 => ?_) (fun c85 => absurd c85 (by decide))
                refine Ev.iconst (v := 0) rfl (by decide) ?_
                refine Ev.iret (ty := .boolean) rfl rfl rfl (Nat.le_refl _) (Nat.le_refl _) ?_
                refine he _ ?_
                unfold F_maySit_34
                rw [if_neg c55]
                rw [if_pos c64]
                rw [if_neg c80]
        · skip
          refine Ev.iload rfl rfl ?_
          refine Ev.aload_n rfl rfl ?_
          refine Ev.getf rfl rfl h0 rfl ?_
          refine Ev.jge (tgt := 106) rfl (by decide) (fun c40 => ?_) (fun c40 => absurd c40 (nI_nlt (Nat.le_refl _) (by omega)))
          refine Ev.iconst (v := 1) rfl (by decide) ?_
          refine Ev.iret (ty := .boolean) rfl rfl rfl (Nat.le_refl _) (Nat.le_refl _) ?_
          rw [← hQ]
          refine ⟨congrArg (fun v => some (Value.int v)) (Eq.symm ?_), rfl⟩
          unfold K_maySit
          rw [if_neg c6]
          rw [if_neg c16]
          rw [if_neg c26]
          rw [hzx, Sum.elim_inl]
        · skip
          rw [← hQ]
          refine ⟨congrArg (fun v => some (Value.int v)) (Eq.symm ?_), rfl⟩
          unfold K_maySit
          rw [if_neg c6]
          rw [if_neg c16]
          rw [if_neg c26]
          rw [hrx, Sum.elim_inr]
      · skip
        refine Ev.iconst (v := 0) rfl (by decide) ?_
        refine Ev.iret (ty := .boolean) rfl rfl rfl (Nat.le_refl _) (Nat.le_refl _) ?_
        rw [← hQ]
        refine ⟨congrArg (fun v => some (Value.int v)) (Eq.symm ?_), rfl⟩
        unfold K_maySit
        rw [if_neg c6]
        rw [if_neg c16]
        rw [if_pos c26]
def F_mayCome_30 (n : Nat) (wo : Nat → Int32) (S : Sch) (C : Les) (w : Int32) : Nat → Unit → (Unit) ⊕ Int32 := fun k z => if ((w >>> ((nI k) &&& 31)) &&& (1 : Int32)) = (0 : Int32) then (.inl ()) else (if (K_can S C (wo k)) = (0 : Int32) then (.inr (0 : Int32)) else (.inl ()))
def K_mayCome (n : Nat) (wo : Nat → Int32) (S : Sch) (C : Les) (w : Int32) : Int32 := if w = (0 : Int32) then (Sum.elim (fun (zx : Unit) => (1 : Int32)) (fun (rx : Int32) => rx) (fe (F_mayCome_30 n wo S C w) (n) 0 ())) else (if ((S.2.2 9) 3) < ((K_bc (C 5)) + (K_bc w)) then (0 : Int32) else (Sum.elim (fun (zx : Unit) => (1 : Int32)) (fun (rx : Int32) => rx) (fe (F_mayCome_30 n wo S C w) (n) 0 ())))
theorem mayCome_ok {n : Nat} {wo be we : Nat → Int32} (hsh : σ.2 (q) = some (.inr (.inr (7, [.ref (q + 1), .int (nI n), .ref (q + 2), .ref (q + 3)])))) (h_who : σ.2 (q + 1) = some (.inl (0, 8, wo))) (h_best : σ.2 (q + 2) = some (.inl (0, 256, be))) (h_worth : σ.2 (q + 3) = some (.inl (0, 256, we))) {c : Nat} {C : Les} (hS : isS σ a S) (hC : isL σ c C) (hn8 : n ≤ 8) (hwho : ∀ i, i < n → wo i = nI (wo i).toNatClampNeg ∧ (wo i).toNatClampNeg < 16) (w : Int32) : RetV Γ m_Sharing_mayCome [(.ref q), (.ref a), (.ref c), (.int w)] σ (.int (K_mayCome n wo S C w)) := by
  obtain ⟨h0, h1, h2, h3, h4, h5, h6', h7, h8, h9, h10⟩ := id hS
  unfold RetV
  generalize hQ : (fun (r : Option Value) (σ' : ex_S) => r = some ((.int (K_mayCome n wo S C w)) : Value) ∧ σ' = σ) = Q
  refine Ret.start pm_148 rfl ?_
  refine Ev.iload_n rfl rfl ?_
  refine Ev.zeq (tgt := 27) rfl (by decide) (fun c1 => ?_) (fun c1 => ?_)
  · skip
    refine Ev.iconst (v := 0) rfl (by decide) ?_
    refine Ev.istore rfl rfl rfl ?_
    refine Ev.fg (L := [some (.ref q), some (.ref a), some (.ref c), some (.int w), some (.int (nI 0))]) ?_ (gs rfl (gs rfl (gs rfl (gs rfl (gs (congrArg Value.int (rfl : (0 : Int32) = nI 0).symm) gz)))))
    refine lpe (fun (k : Nat) (z : Unit) => Ev Γ 0 0 m_Sharing_mayCome 0 0 30 [some (.ref q), some (.ref a), some (.ref c), some (.int w), some (.int (nI k))] [] σ Q) (fun (r : Int32) => Q (some (.int r)) σ) (F_mayCome_30 n wo S C w) (n) (fun k z hk hx he => ?_) (n) 0 () (by omega) (fun zx hzx => ?_) (fun rx hrx => ?_)
    · skip
      refine Ev.iload rfl rfl ?_
      refine Ev.aload_n rfl rfl ?_
      refine Ev.getf rfl rfl hsh rfl ?_
      refine Ev.jge (tgt := 71) rfl (by decide) (fun c36 => absurd (nI_lt hk (by omega)) c36) (fun c36 => ?_)
      refine Ev.iload_n rfl rfl ?_
      refine Ev.iload rfl rfl ?_
      refine Ev.ishr rfl ?_
      refine Ev.iconst (v := 1) rfl (by decide) ?_
      refine Ev.iand rfl ?_
      refine Ev.zeq (tgt := 65) rfl (by decide) (fun c45 => ?_) (fun c45 => ?_)
      · skip
        refine Ev.iinc (d := 1) rfl rfl rfl (by decide) rfl ?_
        refine Ev.goto (tgt := 30) rfl (by decide) ?_
        have hF : (F_mayCome_30 n wo S C w) k z = .inl () := by
          unfold F_mayCome_30
          rw [if_pos c45]
        exact (hx _ hF).fg (gs rfl (gs rfl (gs rfl (gs rfl (gs (congrArg Value.int (show nI (k + 1) = (nI k) + (1 : Int32) from (nq_to (a := k + 1) (nq_add (a := k) (b := 1) rfl (rfl : (1 : Int32) = nI 1)) (by omega)).symm)) gz)))))
      · skip
        refine Ev.aload_n rfl rfl ?_
        refine Ev.aload_n rfl rfl ?_
        refine Ev.aload_n rfl rfl ?_
        refine Ev.getf rfl rfl hsh rfl ?_
        refine Ev.iload rfl rfl ?_
        refine Ev.ialdN (k := k) rfl h_who rfl ⟨(by omega), by decide⟩ ?_
        have hwb := (hwho k (by omega)).2
        refine Ev.cV2 rfl rfl h0 rfl rfl (by decide) ⟨(Nat.le_refl _), (Nat.le_refl _)⟩ (can_ok hS hC _ (vp_of (hwho k (by omega)).1 (by omega))) ?_
        refine Ev.zne (tgt := 65) rfl (by decide) (fun c60 => ?_) (fun c60 => ?_)
        · skip
          refine Ev.iinc (d := 1) rfl rfl rfl (by decide) rfl ?_
          refine Ev.goto (tgt := 30) rfl (by decide) ?_
          have hF : (F_mayCome_30 n wo S C w) k z = .inl () := by
            unfold F_mayCome_30
            rw [if_neg c45]
            rw [if_neg c60]
          exact (hx _ hF).fg (gs rfl (gs rfl (gs rfl (gs rfl (gs (congrArg Value.int (show nI (k + 1) = (nI k) + (1 : Int32) from (nq_to (a := k + 1) (nq_add (a := k) (b := 1) rfl (rfl : (1 : Int32) = nI 1)) (by omega)).symm)) gz)))))
        · skip
          refine Ev.iconst (v := 0) rfl (by decide) ?_
          refine Ev.iret (ty := .boolean) rfl rfl rfl (Nat.le_refl _) (Nat.le_refl _) ?_
          refine he _ ?_
          unfold F_mayCome_30
          rw [if_neg c45]
          rw [if_pos c60]
    · skip
      refine Ev.iload rfl rfl ?_
      refine Ev.aload_n rfl rfl ?_
      refine Ev.getf rfl rfl hsh rfl ?_
      refine Ev.jge (tgt := 71) rfl (by decide) (fun c36 => ?_) (fun c36 => absurd c36 (nI_nlt (Nat.le_refl _) (by omega)))
      refine Ev.iconst (v := 1) rfl (by decide) ?_
      refine Ev.iret (ty := .boolean) rfl rfl rfl (Nat.le_refl _) (Nat.le_refl _) ?_
      rw [← hQ]
      refine ⟨congrArg (fun v => some (Value.int v)) (Eq.symm ?_), rfl⟩
      unfold K_mayCome
      rw [if_pos c1]
      rw [hzx, Sum.elim_inl]
    · skip
      rw [← hQ]
      refine ⟨congrArg (fun v => some (Value.int v)) (Eq.symm ?_), rfl⟩
      unfold K_mayCome
      rw [if_pos c1]
      rw [hrx, Sum.elim_inr]
  · skip
    refine Ev.aload_n rfl rfl ?_
    refine Ev.getf rfl rfl hC rfl ?_
    refine Ev.cS1 rfl rfl rfl (by decide) ⟨(Nat.le_refl _), (Nat.le_refl _)⟩ (bc_ok _) ?_
    refine Ev.iload_n rfl rfl ?_
    refine Ev.cS1 rfl rfl rfl (by decide) ⟨(Nat.le_refl _), (Nat.le_refl _)⟩ (bc_ok _) ?_
    refine Ev.iadd rfl ?_
    refine Ev.aload_n rfl rfl ?_
    refine Ev.getf rfl rfl h0 rfl ?_
    refine Ev.iconst (v := 3) rfl (by decide) ?_
    refine Ev.ialdN (k := 3) rfl h10 (rfl : (3 : Int32) = nI 3) ⟨(by omega), by decide⟩ ?_
    refine Ev.jle (tgt := 27) rfl (by decide) (fun c22 => ?_) (fun c22 => ?_)
    · skip
      refine Ev.iconst (v := 0) rfl (by decide) ?_
      refine Ev.istore rfl rfl rfl ?_
      refine Ev.fg (L := [some (.ref q), some (.ref a), some (.ref c), some (.int w), some (.int (nI 0))]) ?_ (gs rfl (gs rfl (gs rfl (gs rfl (gs (congrArg Value.int (rfl : (0 : Int32) = nI 0).symm) gz)))))
      refine lpe (fun (k : Nat) (z : Unit) => Ev Γ 0 0 m_Sharing_mayCome 0 0 30 [some (.ref q), some (.ref a), some (.ref c), some (.int w), some (.int (nI k))] [] σ Q) (fun (r : Int32) => Q (some (.int r)) σ) (F_mayCome_30 n wo S C w) (n) (fun k z hk hx he => ?_) (n) 0 () (by omega) (fun zx hzx => ?_) (fun rx hrx => ?_)
      · skip
        refine Ev.iload rfl rfl ?_
        refine Ev.aload_n rfl rfl ?_
        refine Ev.getf rfl rfl hsh rfl ?_
        refine Ev.jge (tgt := 71) rfl (by decide) (fun c36 => absurd (nI_lt hk (by omega)) c36) (fun c36 => ?_)
        refine Ev.iload_n rfl rfl ?_
        refine Ev.iload rfl rfl ?_
        refine Ev.ishr rfl ?_
        refine Ev.iconst (v := 1) rfl (by decide) ?_
        refine Ev.iand rfl ?_
        refine Ev.zeq (tgt := 65) rfl (by decide) (fun c45 => ?_) (fun c45 => ?_)
        · skip
          refine Ev.iinc (d := 1) rfl rfl rfl (by decide) rfl ?_
          refine Ev.goto (tgt := 30) rfl (by decide) ?_
          have hF : (F_mayCome_30 n wo S C w) k z = .inl () := by
            unfold F_mayCome_30
            rw [if_pos c45]
          exact (hx _ hF).fg (gs rfl (gs rfl (gs rfl (gs rfl (gs (congrArg Value.int (show nI (k + 1) = (nI k) + (1 : Int32) from (nq_to (a := k + 1) (nq_add (a := k) (b := 1) rfl (rfl : (1 : Int32) = nI 1)) (by omega)).symm)) gz)))))
        · skip
          refine Ev.aload_n rfl rfl ?_
          refine Ev.aload_n rfl rfl ?_
          refine Ev.aload_n rfl rfl ?_
          refine Ev.getf rfl rfl hsh rfl ?_
          refine Ev.iload rfl rfl ?_
          refine Ev.ialdN (k := k) rfl h_who rfl ⟨(by omega), by decide⟩ ?_
          have hwb := (hwho k (by omega)).2
          refine Ev.cV2 rfl rfl h0 rfl rfl (by decide) ⟨(Nat.le_refl _), (Nat.le_refl _)⟩ (can_ok hS hC _ (vp_of (hwho k (by omega)).1 (by omega))) ?_
          refine Ev.zne (tgt := 65) rfl (by decide) (fun c60 => ?_) (fun c60 => ?_)
          · skip
            refine Ev.iinc (d := 1) rfl rfl rfl (by decide) rfl ?_
            refine Ev.goto (tgt := 30) rfl (by decide) ?_
            have hF : (F_mayCome_30 n wo S C w) k z = .inl () := by
              unfold F_mayCome_30
              rw [if_neg c45]
              rw [if_neg c60]
            exact (hx _ hF).fg (gs rfl (gs rfl (gs rfl (gs rfl (gs (congrArg Value.int (show nI (k + 1) = (nI k) + (1 : Int32) from (nq_to (a := k + 1) (nq_add (a := k) (b := 1) rfl (rfl : (1 : Int32) = nI 1)) (by omega)).symm)) gz)))))
          · skip
            refine Ev.iconst (v := 0) rfl (by decide) ?_
            refine Ev.iret (ty := .boolean) rfl rfl rfl (Nat.le_refl _) (Nat.le_refl _) ?_
            refine he _ ?_
            unfold F_mayCome_30
            rw [if_neg c45]
            rw [if_pos c60]
      · skip
        refine Ev.iload rfl rfl ?_
        refine Ev.aload_n rfl rfl ?_
        refine Ev.getf rfl rfl hsh rfl ?_
        refine Ev.jge (tgt := 71) rfl (by decide) (fun c36 => ?_) (fun c36 => absurd c36 (nI_nlt (Nat.le_refl _) (by omega)))
        refine Ev.iconst (v := 1) rfl (by decide) ?_
        refine Ev.iret (ty := .boolean) rfl rfl rfl (Nat.le_refl _) (Nat.le_refl _) ?_
        rw [← hQ]
        refine ⟨congrArg (fun v => some (Value.int v)) (Eq.symm ?_), rfl⟩
        unfold K_mayCome
        rw [if_neg c1]
        rw [if_neg c22]
        rw [hzx, Sum.elim_inl]
      · skip
        rw [← hQ]
        refine ⟨congrArg (fun v => some (Value.int v)) (Eq.symm ?_), rfl⟩
        unfold K_mayCome
        rw [if_neg c1]
        rw [if_neg c22]
        rw [hrx, Sum.elim_inr]
    · skip
      refine Ev.iconst (v := 0) rfl (by decide) ?_
      refine Ev.iret (ty := .boolean) rfl rfl rfl (Nat.le_refl _) (Nat.le_refl _) ?_
      rw [← hQ]
      refine ⟨congrArg (fun v => some (Value.int v)) (Eq.symm ?_), rfl⟩
      unfold K_mayCome
      rw [if_neg c1]
      rw [if_pos c22]
def F_give_18 (n : Nat) (be we : Nat → Int32) (z : Int32 × (Nat → Int32)) : (Int32 × Int32) → (Int32 × Int32) ⊕ Int32 := fun z' => if z'.2 < (0 : Int32) then (.inr z'.1) else (if (we ((z'.2).toNatClampNeg)) = (-1000000000 : Int32) then (if z'.2 = (0 : Int32) then (.inl (z'.1, (-1 : Int32))) else (.inl (z'.1, (z'.2 - (1 : Int32)) &&& z.1))) else (if z'.2 = (0 : Int32) then (.inl (if z'.1 < ((we ((z'.2).toNatClampNeg)) + (z.2 ((z.1 &&& (z'.2 ^^^ (-1 : Int32))).toNatClampNeg))) then (we ((z'.2).toNatClampNeg)) + (z.2 ((z.1 &&& (z'.2 ^^^ (-1 : Int32))).toNatClampNeg)) else z'.1, (-1 : Int32))) else (.inl (if z'.1 < ((we ((z'.2).toNatClampNeg)) + (z.2 ((z.1 &&& (z'.2 ^^^ (-1 : Int32))).toNatClampNeg))) then (we ((z'.2).toNatClampNeg)) + (z.2 ((z.1 &&& (z'.2 ^^^ (-1 : Int32))).toNatClampNeg)) else z'.1, (z'.2 - (1 : Int32)) &&& z.1))))
def F_give_9 (n : Nat) (be we : Nat → Int32) : (Int32 × (Nat → Int32)) → (Int32 × (Nat → Int32)) ⊕ (Nat → Int32) := fun z => if z.1 < (0 : Int32) then (.inr z.2) else (.inl (z.1 + (-1 : Int32), (upd z.2 ((z.1).toNatClampNeg) (fw (F_give_18 n be we z) (0 : Int32) (z.1.toNatClampNeg + 2) ((-1000000000 : Int32), z.1)))))
theorem give_m18 {n : Nat} {be we : Nat → Int32} {z : Int32 × (Nat → Int32)} {s0 : Nat} (hs : s0 < 2 ^ 31) (e : z.1 = nI s0) (u u' : Int32 × Int32) (hj : J_sub s0 u.2) (h : F_give_18 n be we z u = .inl u') : J_sub s0 u'.2 ∧ mu_sub u'.2 < mu_sub u.2 := by
  unfold F_give_18 at h
  by_cases c : u.2 < 0
  · rw [if_pos c] at h
    cases h
  · rw [if_neg c] at h
    obtain ⟨h1, h2, -⟩ := sub_next2 hs hj c
    rw [← e] at h2
    split at h
    · split at h
      · cases h
        exact h1 (by assumption)
      · cases h
        exact h2 (by assumption)
    · split at h
      · cases h
        exact h1 (by assumption)
      · cases h
        exact h2 (by assumption)
theorem give_m9 {n : Nat} {be we : Nat → Int32} {s0 : Nat} (hs : s0 < 2 ^ 31) (u u' : Int32 × (Nat → Int32)) (hj : J_sub s0 u.1) (h : F_give_9 n be we u = .inl u') : J_sub s0 u'.1 ∧ mu_sub u'.1 < mu_sub u.1 := by
  unfold F_give_9 at h
  by_cases c : u.1 < 0
  · rw [if_pos c] at h
    cases h
  · rw [if_neg c] at h
    cases h
    exact (sub_next2 hs hj c).2.2
def K_give (n : Nat) (be we : Nat → Int32) : (Nat → Int32) := (fw (F_give_9 n be we) be (2 ^ n + 2) (nI ((2 ^ n) - 1), be))
theorem give_ok {n : Nat} {wo be we : Nat → Int32} (hsh : σ.2 (q) = some (.inr (.inr (7, [.ref (q + 1), .int (nI n), .ref (q + 2), .ref (q + 3)])))) (h_who : σ.2 (q + 1) = some (.inl (0, 8, wo))) (h_best : σ.2 (q + 2) = some (.inl (0, 256, be))) (h_worth : σ.2 (q + 3) = some (.inl (0, 256, we))) (hn8 : n ≤ 8) : RetX Γ m_Sharing_give [(.ref q)] σ q (q + 4) none (fun τ => τ.2 (q + 2) = some (.inl (0, 256, (K_give n be we))) ∧ τ.2 q = some (.inr (.inr (7, [(.ref (q + 1)), (.int (nI n)), (.ref (q + 2)), (.ref (q + 3))]))) ∧ τ.2 (q + 1) = some (.inl (0, 8, wo)) ∧ τ.2 (q + 3) = some (.inl (0, 256, we))) := by
  obtain ⟨hp1, hp2⟩ := pow8 hn8
  unfold RetX
  generalize hQ : (fun (r : Option Value) (τ : ex_S) => r = none ∧ frm σ τ q (q + 4) ∧ (fun τ : ex_S => τ.2 (q + 2) = some (.inl (0, 256, (K_give n be we))) ∧ τ.2 q = some (.inr (.inr (7, [(.ref (q + 1)), (.int (nI n)), (.ref (q + 2)), (.ref (q + 3))]))) ∧ τ.2 (q + 1) = some (.inl (0, 8, wo)) ∧ τ.2 (q + 3) = some (.inl (0, 256, we))) τ) = Q
  refine Ret.start pm_144 rfl ?_
  have fr : frm σ σ q (q + 4) := frm.rf
  refine Ev.iconst (v := 1) rfl (by decide) ?_
  refine Ev.aload_n rfl rfl ?_
  refine Ev.getf rfl rfl hsh rfl ?_
  refine Ev.ishl rfl ?_
  refine Ev.iconst (v := 1) rfl (by decide) ?_
  refine Ev.isub rfl ?_
  rw [show ((1 : Int32) <<< ((nI n) &&& 31)) - (1 : Int32) = nI ((2 ^ n) - 1) from (nq_sub (a := 2 ^ n) (b := 1) (nq_shl rfl (by omega)) (rfl : (1 : Int32) = nI 1) (by omega))]
  refine Ev.istore_n rfl rfl rfl ?_
  refine Ev.fg (L := [some (.ref q), some (.int (nI ((2 ^ n) - 1))), none, none]) ?_ (gs rfl (gs rfl (gn (gn gz))))
  refine lw (fun (z : Int32 × (Nat → Int32)) => ∀ τ' : ex_S, frm σ τ' q (q + 4) → τ'.2 q = some (.inr (.inr (7, [(.ref (q + 1)), (.int (nI n)), (.ref (q + 2)), (.ref (q + 3))]))) → τ'.2 (q + 1) = some (.inl (0, 8, wo)) → τ'.2 (q + 2) = some (.inl (0, 256, z.2)) → τ'.2 (q + 3) = some (.inl (0, 256, we)) → Ev Γ 0 0 m_Sharing_give 0 0 9 [some (.ref q), some (.int z.1), none, none] [] τ' Q) (fun (r : (Nat → Int32)) => ∀ τ' : ex_S, frm σ τ' q (q + 4) → τ'.2 q = some (.inr (.inr (7, [(.ref (q + 1)), (.int (nI n)), (.ref (q + 2)), (.ref (q + 3))]))) → τ'.2 (q + 1) = some (.inl (0, 8, wo)) → τ'.2 (q + 2) = some (.inl (0, 256, r)) → τ'.2 (q + 3) = some (.inl (0, 256, we)) → Ev Γ 0 0 m_Sharing_give 0 0 85 [none, none, none, none] [] τ' Q) (F_give_9 n be we) be (fun z => J_sub (2 ^ n - 1) z.1) (fun z => mu_sub z.1) (give_m9 (s0 := 2 ^ n - 1) (by omega)) (fun z hj hx he => ?_) (2 ^ n + 2) (nI ((2 ^ n) - 1), be) (Or.inr ⟨_, Nat.le_refl _, rfl⟩) (by unfold mu_sub; rw [if_neg (nI_pos (by omega)), nI_clamp (by omega)]; omega) ?_ σ fr hsh h_who h_best h_worth
  · skip
    intro τ' fr hsh h_who h_best h_worth
    refine Ev.iload_n rfl rfl ?_
    refine Ev.zlt (tgt := 85) rfl (by decide) (fun c10 => ?_) (fun c10 => ?_)
    · skip
      have hF : (F_give_9 n be we)  z = .inr z.2 := by
        unfold F_give_9
        rw [if_pos c10]
      exact (he _ hF τ' fr hsh h_who h_best h_worth).fg (gn (gn (gn (gn gz))))
    · skip
      have hb2 := (J_nat hj (by omega) c10).2
      refine Ev.ldc (v := (-1000000000)) rfl rfl ?_
      refine Ev.istore_n rfl rfl rfl ?_
      refine Ev.iload_n rfl rfl ?_
      refine Ev.istore_n rfl rfl rfl ?_
      refine Ev.fg (L := [some (.ref q), some (.int z.1), some (.int (-1000000000 : Int32)), some (.int z.1)]) ?_ (gs rfl (gs rfl (gs rfl (gs rfl gz))))
      refine lw (fun (z' : Int32 × Int32) => Ev Γ 0 0 m_Sharing_give 0 0 18 [some (.ref q), some (.int z.1), some (.int z'.1), some (.int z'.2)] [] τ' Q) (fun (r : Int32) => Ev Γ 0 0 m_Sharing_give 0 0 72 [some (.ref q), some (.int z.1), some (.int r), none] [] τ' Q) (F_give_18 n be we z) (0 : Int32) (fun z' => J_sub z.1.toNatClampNeg z'.2) (fun z' => mu_sub z'.2) (give_m18 (s0 := z.1.toNatClampNeg) (by omega) (J_nat hj (by omega) c10).1) (fun z' hj' hx he => ?_) (z.1.toNatClampNeg + 2) ((-1000000000 : Int32), z.1) (Or.inr ⟨_, Nat.le_refl _, (J_nat hj (by omega) c10).1⟩) (by show mu_sub z.1 < _; unfold mu_sub; rw [if_neg c10]; omega) ?_
      · skip
        refine Ev.iload_n rfl rfl ?_
        refine Ev.zlt (tgt := 72) rfl (by decide) (fun c19 => ?_) (fun c19 => ?_)
        · skip
          have hF : (F_give_18 n be we z)  z' = .inr z'.1 := by
            unfold F_give_18
            rw [if_pos c19]
          exact (he _ hF).fg (gs rfl (gs rfl (gs rfl (gn gz))))
        · skip
          have hb1 := (J_nat hj' (by omega) c19).2
          have hb3 := (and_nat (w := (z'.2 ^^^ (-1 : Int32))) (J_nat hj (by omega) c10).1 (by omega)).2
          refine Ev.aload_n rfl rfl ?_
          refine Ev.getf rfl rfl hsh rfl ?_
          refine Ev.iload_n rfl rfl ?_
          refine Ev.ialdN (k := (z'.2).toNatClampNeg) rfl h_worth (J_nat hj' (by omega) c19).1 ⟨(by omega), by decide⟩ ?_
          refine Ev.ldc (v := (-1000000000)) rfl rfl ?_
          refine Ev.jeq (tgt := 55) rfl (by decide) (fun c30 => ?_) (fun c30 => ?_)
          · skip
            refine Ev.iload_n rfl rfl ?_
            refine Ev.zne (tgt := 63) rfl (by decide) (fun c56 => ?_) (fun c56 => ?_)
            · skip
              refine Ev.iload_n rfl rfl ?_
              refine Ev.iconst (v := 1) rfl (by decide) ?_
              refine Ev.isub rfl ?_
              refine Ev.iload_n rfl rfl ?_
              refine Ev.iand rfl ?_
              refine Ev.istore_n rfl rfl rfl ?_
              refine Ev.goto (tgt := 18) rfl (by decide) ?_
              have hF : (F_give_18 n be we z)  z' = .inl (z'.1, (z'.2 - (1 : Int32)) &&& z.1) := by
                unfold F_give_18
                rw [if_neg c19]
                rw [if_pos c30]
                rw [if_neg c56]
              exact (hx _ hF).fg (gs rfl (gs rfl (gs rfl (gs rfl gz))))
            · skip
              refine Ev.iconst (v := (-1)) rfl (by decide) ?_
              refine Ev.goto (tgt := 68) rfl (by decide) ?_
              refine Ev.istore_n rfl rfl rfl ?_
              refine Ev.goto (tgt := 18) rfl (by decide) ?_
              have hF : (F_give_18 n be we z)  z' = .inl (z'.1, (-1 : Int32)) := by
                unfold F_give_18
                rw [if_neg c19]
                rw [if_pos c30]
                rw [if_pos c56]
              exact (hx _ hF).fg (gs rfl (gs rfl (gs rfl (gs rfl gz))))
          · skip
            refine Ev.iload_n rfl rfl ?_
            refine Ev.aload_n rfl rfl ?_
            refine Ev.getf rfl rfl hsh rfl ?_
            refine Ev.iload_n rfl rfl ?_
            refine Ev.ialdN (k := (z'.2).toNatClampNeg) rfl h_worth (J_nat hj' (by omega) c19).1 ⟨(by omega), by decide⟩ ?_
            refine Ev.aload_n rfl rfl ?_
            refine Ev.getf rfl rfl hsh rfl ?_
            refine Ev.iload_n rfl rfl ?_
            refine Ev.iload_n rfl rfl ?_
            refine Ev.iconst (v := (-1)) rfl (by decide) ?_
            refine Ev.ixor rfl ?_
            refine Ev.iand rfl ?_
            refine Ev.ialdN (k := (z.1 &&& (z'.2 ^^^ (-1 : Int32))).toNatClampNeg) rfl h_best (and_nat (J_nat hj (by omega) c10).1 (by omega)).1 ⟨(by omega), by decide⟩ ?_
            refine Ev.iadd rfl ?_
            refine Ev.mmax rfl rfl rfl (Nat.le_of_ble_eq_true rfl) ⟨(Nat.le_refl _), (Nat.le_refl _)⟩ ?_
            refine Ev.istore_n rfl rfl rfl ?_
            refine Ev.iload_n rfl rfl ?_
            refine Ev.zne (tgt := 63) rfl (by decide) (fun c56 => ?_) (fun c56 => ?_)
            · skip
              refine Ev.iload_n rfl rfl ?_
              refine Ev.iconst (v := 1) rfl (by decide) ?_
              refine Ev.isub rfl ?_
              refine Ev.iload_n rfl rfl ?_
              refine Ev.iand rfl ?_
              refine Ev.istore_n rfl rfl rfl ?_
              refine Ev.goto (tgt := 18) rfl (by decide) ?_
              have hF : (F_give_18 n be we z)  z' = .inl (if z'.1 < ((we ((z'.2).toNatClampNeg)) + (z.2 ((z.1 &&& (z'.2 ^^^ (-1 : Int32))).toNatClampNeg))) then (we ((z'.2).toNatClampNeg)) + (z.2 ((z.1 &&& (z'.2 ^^^ (-1 : Int32))).toNatClampNeg)) else z'.1, (z'.2 - (1 : Int32)) &&& z.1) := by
                unfold F_give_18
                rw [if_neg c19]
                rw [if_neg c30]
                rw [if_neg c56]
              exact (hx _ hF).fg (gs rfl (gs rfl (gs rfl (gs rfl gz))))
            · skip
              refine Ev.iconst (v := (-1)) rfl (by decide) ?_
              refine Ev.goto (tgt := 68) rfl (by decide) ?_
              refine Ev.istore_n rfl rfl rfl ?_
              refine Ev.goto (tgt := 18) rfl (by decide) ?_
              have hF : (F_give_18 n be we z)  z' = .inl (if z'.1 < ((we ((z'.2).toNatClampNeg)) + (z.2 ((z.1 &&& (z'.2 ^^^ (-1 : Int32))).toNatClampNeg))) then (we ((z'.2).toNatClampNeg)) + (z.2 ((z.1 &&& (z'.2 ^^^ (-1 : Int32))).toNatClampNeg)) else z'.1, (-1 : Int32)) := by
                unfold F_give_18
                rw [if_neg c19]
                rw [if_neg c30]
                rw [if_pos c56]
              exact (hx _ hF).fg (gs rfl (gs rfl (gs rfl (gs rfl gz))))
      · skip
        refine Ev.aload_n rfl rfl ?_
        refine Ev.getf rfl rfl hsh rfl ?_
        refine Ev.iload_n rfl rfl ?_
        refine Ev.iload_n rfl rfl ?_
        refine Ev.iastE (k := (z.1).toNatClampNeg) rfl h_best (J_nat hj (by omega) c10).1 ⟨(by omega), by decide⟩ (fun τ1 f1 h_best => ?_)
        have hsh := frm.cell f1 hsh (by omega)
        have h_who := frm.cell f1 h_who (by omega)
        have h_worth := frm.cell f1 h_worth (by omega)
        have fr := fr.step f1 (by omega) (by omega)
        refine Ev.iinc (d := (-1)) rfl rfl rfl (by decide) rfl ?_
        refine Ev.goto (tgt := 9) rfl (by decide) ?_
        have hF : (F_give_9 n be we)  z = .inl (z.1 + (-1 : Int32), (upd z.2 ((z.1).toNatClampNeg) (fw (F_give_18 n be we z) (0 : Int32) (z.1.toNatClampNeg + 2) ((-1000000000 : Int32), z.1)))) := by
          unfold F_give_9
          rw [if_neg c10]
        exact (hx _ hF τ1 fr hsh h_who h_best h_worth).fg (gs rfl (gs rfl (gn (gn gz))))
  · skip
    intro τ' fr hsh h_who h_best h_worth
    refine Ev.ret rfl rfl (Nat.le_refl _) (Nat.le_refl _) ?_
    have hK : (K_give n be we) = (fw (F_give_9 n be we) be (2 ^ n + 2) (nI ((2 ^ n) - 1), be)) := by rfl
    rw [← hQ]
    dsimp only
    rw [hK]
    exact ⟨rfl, fr, h_best, hsh, h_who, h_worth⟩
end
end
