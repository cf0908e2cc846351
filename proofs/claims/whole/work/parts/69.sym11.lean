/-! Printed by sym.py: sharing out (class). -/
noncomputable section
section
variable {Γ : ex_G} {σ : ex_S} {x q a p y : Nat} {S : Sch} {T : Tol} {P : Pln} {g A : Nat → Int32}
theorem vp_of {x : Int32} {n k : Nat} (h : x = nI k) (hk : k < n) (hn : n < 100 := by decide) : vp_in x n := by subst h; exact vp_in_nI hk (by omega)
theorem J_nat {s0 : Nat} {z : Int32} (h : J_sub s0 z) (hs : s0 < 2 ^ 31) (h0 : ¬ z < 0) : z = nI z.toNatClampNeg ∧ z.toNatClampNeg ≤ s0 := by
  rcases h with rfl | ⟨m, hm, rfl⟩
  · exact absurd (by decide) h0
  · rw [nI_clamp (by omega)]
    exact ⟨rfl, hm⟩
theorem and_nat {x w : Int32} {a : Nat} (h : x = nI a) (ha : a < 2 ^ 31) : x &&& w = nI (x &&& w).toNatClampNeg ∧ (x &&& w).toNatClampNeg ≤ a := by
  subst h
  have e : w = nI w.toBitVec.toNat := by
    apply Int32.toBitVec_inj.mp
    apply BitVec.eq_of_toNat_eq
    simp [nI]
  rw [e, and_nI (by omega) w.toBitVec.isLt]
  have h1 : a &&& w.toBitVec.toNat ≤ a := Nat.and_le_left
  rw [nI_clamp (by omega)]
  exact ⟨rfl, h1⟩
theorem pow8 {n : Nat} (h : n ≤ 8) : 2 ^ n ≤ 256 ∧ 1 ≤ 2 ^ n := ⟨Nat.pow_le_pow_right (by decide) h, Nat.one_le_two_pow⟩
theorem sub_next2 {s0 : Nat} {z : Int32} (hs : s0 < 2 ^ 31) (h : J_sub s0 z) (h0 : ¬ z < 0) : (z = 0 → J_sub s0 (-1) ∧ mu_sub (-1) < mu_sub z) ∧ (¬ z = 0 → J_sub s0 ((z - 1) &&& nI s0) ∧ mu_sub ((z - 1) &&& nI s0) < mu_sub z) ∧ J_sub s0 (z + -1) ∧ mu_sub (z + -1) < mu_sub z := by
  rcases h with rfl | ⟨m, hm, rfl⟩
  · exact absurd (by decide) h0
  · have step : ∀ q, m = q + 1 → nI m + -1 = nI q := fun q e => by rw [e]; exact pk_m1 q
    have mu0 : mu_sub (nI m) = m + 1 := by unfold mu_sub; rw [if_neg h0, nI_clamp (by omega)]
    have mun : mu_sub (-1) = 0 := by unfold mu_sub; rw [if_pos (by decide)]
    refine ⟨fun e => ⟨Or.inl rfl, by rw [mu0, mun]; omega⟩, fun e => ?_, ?_⟩
    · obtain ⟨q, rfl⟩ : ∃ q, m = q + 1 := ⟨m - 1, by
        have : m ≠ 0 := fun c => e (by rw [c]; rfl)
        omega⟩
      rw [mu0, nI_pred, and_nI (by omega) (by omega)]
      have h1 : q &&& s0 ≤ q := Nat.and_le_left
      refine ⟨Or.inr ⟨_, by omega, rfl⟩, ?_⟩
      unfold mu_sub
      rw [if_neg (nI_pos (by omega)), nI_clamp (by omega)]
      omega
    · by_cases e : m = 0
      · subst e
        rw [mu0, show nI 0 + -1 = (-1 : Int32) by decide, mun]
        exact ⟨Or.inl rfl, by omega⟩
      · obtain ⟨q, rfl⟩ : ∃ q, m = q + 1 := ⟨m - 1, by omega⟩
        rw [mu0, step q rfl]
        refine ⟨Or.inr ⟨q, by omega, rfl⟩, ?_⟩
        unfold mu_sub
        rw [if_neg (nI_pos (by omega)), nI_clamp (by omega)]
        omega
def F_begin_7 (w : Int32) (wo : Nat → Int32) : Nat → (Nat × (Nat → Int32)) → (Nat × (Nat → Int32)) ⊕ (Nat × (Nat → Int32)) := fun k z => if (nI z.1) < (8 : Int32) then (if ((w >>> ((nI k) &&& 31)) &&& (1 : Int32)) = (0 : Int32) then (.inl (z.1, z.2)) else (.inl (z.1 + 1, (upd z.2 z.1 (nI k))))) else (.inr (z.1, z.2))
def K_begin (w : Int32) (wo : Nat → Int32) : Nat × (Nat → Int32) := Sum.elim (fun (zx : Nat × (Nat → Int32)) => (zx.1, zx.2)) (fun (rx : Nat × (Nat → Int32)) => (rx.1, rx.2)) (fe (F_begin_7 w wo) (16) 0 (0, wo))
theorem begin_ok {n0 : Nat} {wo be we : Nat → Int32} (hsh : σ.2 (q) = some (.inr (.inr (7, [.ref (q + 1), .int (nI n0), .ref (q + 2), .ref (q + 3)])))) (h_who : σ.2 (q + 1) = some (.inl (0, 8, wo))) (h_best : σ.2 (q + 2) = some (.inl (0, 256, be))) (h_worth : σ.2 (q + 3) = some (.inl (0, 256, we))) (w : Int32) : RetX Γ m_Sharing_begin [(.ref q), (.int w)] σ q (q + 4) none (fun τ => τ.2 q = some (.inr (.inr (7, [(.ref (q + 1)), (.int (nI ((K_begin w wo).1))), (.ref (q + 2)), (.ref (q + 3))]))) ∧ τ.2 (q + 1) = some (.inl (0, 8, (K_begin w wo).2)) ∧ τ.2 (q + 2) = some (.inl (0, 256, be)) ∧ τ.2 (q + 3) = some (.inl (0, 256, we))) := by
  unfold RetX
  generalize hQ : (fun (r : Option Value) (τ : ex_S) => r = none ∧ frm σ τ q (q + 4) ∧ (fun τ : ex_S => τ.2 q = some (.inr (.inr (7, [(.ref (q + 1)), (.int (nI ((K_begin w wo).1))), (.ref (q + 2)), (.ref (q + 3))]))) ∧ τ.2 (q + 1) = some (.inl (0, 8, (K_begin w wo).2)) ∧ τ.2 (q + 2) = some (.inl (0, 256, be)) ∧ τ.2 (q + 3) = some (.inl (0, 256, we))) τ) = Q
  refine Ret.start pm_143 rfl ?_
  have fr : frm σ σ q (q + 4) := frm.rf
  refine Ev.aload_n rfl rfl ?_
  refine Ev.iconst (v := 0) rfl (by decide) ?_
  refine Ev.putE rfl rfl hsh rfl rfl rfl (Nat.le_of_ble_eq_true rfl) (fun τ1 f1 hsh => ?_)
  replace hsh : τ1.2 q = some (.inr (.inr (7, [(.ref (q + 1)), (.int (0 : Int32)), (.ref (q + 2)), (.ref (q + 3))]))) := hsh
  have h_who := frm.cell f1 h_who (by omega)
  have h_best := frm.cell f1 h_best (by omega)
  have h_worth := frm.cell f1 h_worth (by omega)
  have fr := fr.step f1 (by omega) (by omega)
  refine Ev.iconst (v := 0) rfl (by decide) ?_
  refine Ev.istore_n rfl rfl rfl ?_
  refine Ev.fg (L := [some (.ref q), some (.int w), some (.int (nI 0))]) ?_ (gs rfl (gs rfl (gs (congrArg Value.int (rfl : (0 : Int32) = nI 0).symm) gz)))
  refine lpe (fun (k : Nat) (z : Nat × (Nat → Int32)) => (z.1 ≤ 8) → ∀ τ' : ex_S, frm σ τ' q (q + 4) → τ'.2 q = some (.inr (.inr (7, [(.ref (q + 1)), (.int (nI z.1)), (.ref (q + 2)), (.ref (q + 3))]))) → τ'.2 (q + 1) = some (.inl (0, 8, z.2)) → τ'.2 (q + 2) = some (.inl (0, 256, be)) → τ'.2 (q + 3) = some (.inl (0, 256, we)) → Ev Γ 0 0 m_Sharing_begin 0 0 7 [some (.ref q), some (.int w), some (.int (nI k))] [] τ' Q) (fun (r : Nat × (Nat → Int32)) => ∀ τ' : ex_S, frm σ τ' q (q + 4) → τ'.2 q = some (.inr (.inr (7, [(.ref (q + 1)), (.int (nI r.1)), (.ref (q + 2)), (.ref (q + 3))]))) → τ'.2 (q + 1) = some (.inl (0, 8, r.2)) → τ'.2 (q + 2) = some (.inl (0, 256, be)) → τ'.2 (q + 3) = some (.inl (0, 256, we)) → Ev Γ 0 0 m_Sharing_begin 0 0 56 [none, none, none] [] τ' Q) (F_begin_7 w wo) (16) (fun k z hk hx he => ?_) (16) 0 (0, wo) (by omega) (fun zx hzx => ?_) (fun rx hrx => ?_) (by omega) τ1 fr hsh h_who h_best h_worth
  · skip
    intro hI
    intro τ' fr hsh h_who h_best h_worth
    refine Ev.iload_n rfl rfl ?_
    refine Ev.bipush (v := 16) rfl (by decide) ?_
    refine Ev.jge (tgt := 56) rfl (by decide) (fun c10 => absurd (nI_lt hk (by omega)) c10) (fun c10 => ?_)
    refine Ev.aload_n rfl rfl ?_
    refine Ev.getf rfl rfl hsh rfl ?_
    refine Ev.bipush (v := 8) rfl (by decide) ?_
    refine Ev.jge (tgt := 56) rfl (by decide) (fun c19 => ?_) (fun c19 => ?_)
    · skip
      have hF : (F_begin_7 w wo) k z = .inr (z.1, z.2) := by
        unfold F_begin_7
        rw [if_neg c19]
      exact (he _ hF τ' fr hsh h_who h_best h_worth).fg (gn (gn (gn gz)))
    · skip
      have hz8 := (nI_ltI (a := z.1) (b := 8) (by omega) (by decide)).mp c19
      refine Ev.iload_n rfl rfl ?_
      refine Ev.iload_n rfl rfl ?_
      refine Ev.ishr rfl ?_
      refine Ev.iconst (v := 1) rfl (by decide) ?_
      refine Ev.iand rfl ?_
      refine Ev.zeq (tgt := 50) rfl (by decide) (fun c27 => ?_) (fun c27 => ?_)
      · skip
        refine Ev.iinc (d := 1) rfl rfl rfl (by decide) rfl ?_
        refine Ev.goto (tgt := 7) rfl (by decide) ?_
        have hF : (F_begin_7 w wo) k z = .inl (z.1, z.2) := by
          unfold F_begin_7
          rw [if_pos c19]
          rw [if_pos c27]
        exact (hx _ hF (by show (z.1 ≤ 8); omega) τ' fr hsh h_who h_best h_worth).fg (gs rfl (gs rfl (gs (congrArg Value.int (show nI (k + 1) = (nI k) + (1 : Int32) from (nq_to (a := k + 1) (nq_add (a := k) (b := 1) rfl (rfl : (1 : Int32) = nI 1)) (by omega)).symm)) gz)))
      · skip
        refine Ev.aload_n rfl rfl ?_
        refine Ev.getf rfl rfl hsh rfl ?_
        refine Ev.aload_n rfl rfl ?_
        refine Ev.getf rfl rfl hsh rfl ?_
        refine Ev.iload_n rfl rfl ?_
        refine Ev.iastE (k := z.1) rfl h_who rfl ⟨(by omega), by decide⟩ (fun τ2 f1 h_who => ?_)
        have hsh := frm.cell f1 hsh (by omega)
        have h_best := frm.cell f1 h_best (by omega)
        have h_worth := frm.cell f1 h_worth (by omega)
        have fr := fr.step f1 (by omega) (by omega)
        refine Ev.aload_n rfl rfl ?_
        refine Ev.dup rfl rfl ?_
        refine Ev.getf rfl rfl hsh rfl ?_
        refine Ev.iconst (v := 1) rfl (by decide) ?_
        refine Ev.iadd rfl ?_
        rw [show (nI z.1) + (1 : Int32) = nI (z.1 + 1) from (nq_add (a := z.1) (b := 1) rfl (rfl : (1 : Int32) = nI 1))]
        refine Ev.putE rfl rfl hsh rfl rfl rfl (Nat.le_of_ble_eq_true rfl) (fun τ3 f1 hsh => ?_)
        replace hsh : τ3.2 q = some (.inr (.inr (7, [(.ref (q + 1)), (.int (nI (z.1 + 1))), (.ref (q + 2)), (.ref (q + 3))]))) := hsh
        have h_who := frm.cell f1 h_who (by omega)
        have h_best := frm.cell f1 h_best (by omega)
        have h_worth := frm.cell f1 h_worth (by omega)
        have fr := fr.step f1 (by omega) (by omega)
        refine Ev.iinc (d := 1) rfl rfl rfl (by decide) rfl ?_
        refine Ev.goto (tgt := 7) rfl (by decide) ?_
        have hF : (F_begin_7 w wo) k z = .inl (z.1 + 1, (upd z.2 z.1 (nI k))) := by
          unfold F_begin_7
          rw [if_pos c19]
          rw [if_neg c27]
        exact (hx _ hF (by show (z.1 + 1 ≤ 8); omega) τ3 fr hsh h_who h_best h_worth).fg (gs rfl (gs rfl (gs (congrArg Value.int (show nI (k + 1) = (nI k) + (1 : Int32) from (nq_to (a := k + 1) (nq_add (a := k) (b := 1) rfl (rfl : (1 : Int32) = nI 1)) (by omega)).symm)) gz)))
  · skip
    intro hI
    intro τ' fr hsh h_who h_best h_worth
    refine Ev.iload_n rfl rfl ?_
    refine Ev.bipush (v := 16) rfl (by decide) ?_
    refine Ev.jge (tgt := 56) rfl (by decide) (fun c10 => ?_) (fun c10 => absurd c10 (nI_nlt (Nat.le_refl _) (by omega)))
    refine Ev.ret rfl rfl (Nat.le_refl _) (Nat.le_refl _) ?_
    have hK : (K_begin w wo) = (zx.1, zx.2) := by
      unfold K_begin
      rw [hzx, Sum.elim_inl]
    rw [← hQ]
    dsimp only
    rw [hK]
    exact ⟨rfl, fr, hsh, h_who, h_best, h_worth⟩
  · skip
    intro hI
    intro τ' fr hsh h_who h_best h_worth
    refine Ev.ret rfl rfl (Nat.le_refl _) (Nat.le_refl _) ?_
    have hK : (K_begin w wo) = (rx.1, rx.2) := by
      unfold K_begin
      rw [hrx, Sum.elim_inr]
    rw [← hQ]
    dsimp only
    rw [hK]
    exact ⟨rfl, fr, hsh, h_who, h_best, h_worth⟩
theorem begin_le (w : Int32) (wo : Nat → Int32) : (K_begin w wo).1 ≤ 8 := by
  obtain ⟨a, b⟩ := fe_inv (F := F_begin_7 w wo) (fun _ z => z.1 ≤ 8) (fun r => r.1 ≤ 8) 16 0 (0, wo) (by decide) (fun j z _ _ hz => by
    have hz : z.1 ≤ 8 := hz
    unfold F_begin_7
    by_cases c : nI z.1 < (8 : Int32)
    · have hz8 := (nI_ltI (a := z.1) (b := 8) (by omega) (by decide)).mp c
      rw [if_pos c]
      refine ⟨fun z' e => ?_, fun r e => ?_⟩
      · split at e
        · cases e; exact hz
        · cases e; show z.1 + 1 ≤ 8; omega
      · split at e <;> cases e
    · rw [if_neg c]
      exact ⟨fun z' e => by cases e, fun r e => by cases e; exact hz⟩)
  unfold K_begin
  rcases hf : fe (F_begin_7 w wo) 16 0 (0, wo) with z | r
  · rw [Sum.elim_inl]; exact a z hf
  · rw [Sum.elim_inr]; exact b r hf
def F_rank_4 (n : Nat) (w : Int32) : Nat → Int32 → Int32 := fun k z => z + (((w >>> ((nI k) &&& 31)) &&& (1 : Int32)) <<< (((2 : Int32) * ((7 : Int32) - (nI k))) &&& 31))
def K_rank (n : Nat) (w : Int32) : Int32 := (fo (F_rank_4 n w) (n) 0 (0 : Int32))
theorem rank_ok {n : Nat} {wo be we : Nat → Int32} (hsh : σ.2 (q) = some (.inr (.inr (7, [.ref (q + 1), .int (nI n), .ref (q + 2), .ref (q + 3)])))) (h_who : σ.2 (q + 1) = some (.inl (0, 8, wo))) (h_best : σ.2 (q + 2) = some (.inl (0, 256, be))) (h_worth : σ.2 (q + 3) = some (.inl (0, 256, we))) (hn8 : n ≤ 8) (w : Int32) : RetV Γ m_Sharing_rank [(.ref q), (.int w)] σ (.int (K_rank n w)) := by
  unfold RetV
  generalize hQ : (fun (r : Option Value) (σ' : ex_S) => r = some ((.int (K_rank n w)) : Value) ∧ σ' = σ) = Q
  refine Ret.start pm_145 rfl ?_
  refine Ev.iconst (v := 0) rfl (by decide) ?_
  refine Ev.istore_n rfl rfl rfl ?_
  refine Ev.iconst (v := 0) rfl (by decide) ?_
  refine Ev.istore_n rfl rfl rfl ?_
  refine Ev.fg (L := [some (.ref q), some (.int w), some (.int (0 : Int32)), some (.int (nI 0))]) ?_ (gs rfl (gs rfl (gs rfl (gs (congrArg Value.int (rfl : (0 : Int32) = nI 0).symm) gz))))
  refine lp (fun (k : Nat) (z : Int32) => Ev Γ 0 0 m_Sharing_rank 0 0 4 [some (.ref q), some (.int w), some (.int z), some (.int (nI k))] [] σ Q) (F_rank_4 n w) (n) (fun k z hk hx => ?_) (n) 0 (0 : Int32) (by omega) ?_
  · skip
    refine Ev.iload_n rfl rfl ?_
    refine Ev.aload_n rfl rfl ?_
    refine Ev.getf rfl rfl hsh rfl ?_
    refine Ev.jge (tgt := 33) rfl (by decide) (fun c9 => absurd (nI_lt hk (by omega)) c9) (fun c9 => ?_)
    refine Ev.iload_n rfl rfl ?_
    refine Ev.iload_n rfl rfl ?_
    refine Ev.iload_n rfl rfl ?_
    refine Ev.ishr rfl ?_
    refine Ev.iconst (v := 1) rfl (by decide) ?_
    refine Ev.iand rfl ?_
    refine Ev.iconst (v := 2) rfl (by decide) ?_
    refine Ev.bipush (v := 7) rfl (by decide) ?_
    refine Ev.iload_n rfl rfl ?_
    refine Ev.isub rfl ?_
    refine Ev.imul rfl ?_
    refine Ev.ishl rfl ?_
    refine Ev.iadd rfl ?_
    refine Ev.istore_n rfl rfl rfl ?_
    refine Ev.iinc (d := 1) rfl rfl rfl (by decide) rfl ?_
    refine Ev.goto (tgt := 4) rfl (by decide) ?_
    have hF : (F_rank_4 n w) k z = z + (((w >>> ((nI k) &&& 31)) &&& (1 : Int32)) <<< (((2 : Int32) * ((7 : Int32) - (nI k))) &&& 31)) := by rfl
    rw [hF] at hx
    exact hx.fg (gs rfl (gs rfl (gs rfl (gs (congrArg Value.int (show nI (k + 1) = (nI k) + (1 : Int32) from (nq_to (a := k + 1) (nq_add (a := k) (b := 1) rfl (rfl : (1 : Int32) = nI 1)) (by omega)).symm)) gz))))
  · skip
    refine Ev.iload_n rfl rfl ?_
    refine Ev.aload_n rfl rfl ?_
    refine Ev.getf rfl rfl hsh rfl ?_
    refine Ev.jge (tgt := 33) rfl (by decide) (fun c9 => ?_) (fun c9 => absurd c9 (nI_nlt (Nat.le_refl _) (by omega)))
    refine Ev.iload_n rfl rfl ?_
    refine Ev.iret (ty := .int) rfl rfl rfl (Nat.le_refl _) (Nat.le_refl _) ?_
    rw [← hQ]
    refine ⟨congrArg (fun v => some (Value.int v)) (Eq.symm ?_), rfl⟩
    rfl
def F_lOf_4 (n : Nat) (wo : Nat → Int32) (w : Int32) : Nat → Int32 → Int32 := fun k z => z ||| (((w >>> ((nI k) &&& 31)) &&& (1 : Int32)) <<< ((wo k) &&& 31))
def K_lOf (n : Nat) (wo : Nat → Int32) (w : Int32) : Int32 := (fo (F_lOf_4 n wo w) (n) 0 (0 : Int32))
theorem lOf_ok {n : Nat} {wo be we : Nat → Int32} (hsh : σ.2 (q) = some (.inr (.inr (7, [.ref (q + 1), .int (nI n), .ref (q + 2), .ref (q + 3)])))) (h_who : σ.2 (q + 1) = some (.inl (0, 8, wo))) (h_best : σ.2 (q + 2) = some (.inl (0, 256, be))) (h_worth : σ.2 (q + 3) = some (.inl (0, 256, we))) (hn8 : n ≤ 8) (w : Int32) : RetV Γ m_Sharing_learnersOf [(.ref q), (.int w)] σ (.int (K_lOf n wo w)) := by
  unfold RetV
  generalize hQ : (fun (r : Option Value) (σ' : ex_S) => r = some ((.int (K_lOf n wo w)) : Value) ∧ σ' = σ) = Q
  refine Ret.start pm_146 rfl ?_
  refine Ev.iconst (v := 0) rfl (by decide) ?_
  refine Ev.istore_n rfl rfl rfl ?_
  refine Ev.iconst (v := 0) rfl (by decide) ?_
  refine Ev.istore_n rfl rfl rfl ?_
  refine Ev.fg (L := [some (.ref q), some (.int w), some (.int (0 : Int32)), some (.int (nI 0))]) ?_ (gs rfl (gs rfl (gs rfl (gs (congrArg Value.int (rfl : (0 : Int32) = nI 0).symm) gz))))
  refine lp (fun (k : Nat) (z : Int32) => Ev Γ 0 0 m_Sharing_learnersOf 0 0 4 [some (.ref q), some (.int w), some (.int z), some (.int (nI k))] [] σ Q) (F_lOf_4 n wo w) (n) (fun k z hk hx => ?_) (n) 0 (0 : Int32) (by omega) ?_
  · skip
    refine Ev.iload_n rfl rfl ?_
    refine Ev.aload_n rfl rfl ?_
    refine Ev.getf rfl rfl hsh rfl ?_
    refine Ev.jge (tgt := 33) rfl (by decide) (fun c9 => absurd (nI_lt hk (by omega)) c9) (fun c9 => ?_)
    refine Ev.iload_n rfl rfl ?_
    refine Ev.iload_n rfl rfl ?_
    refine Ev.iload_n rfl rfl ?_
    refine Ev.ishr rfl ?_
    refine Ev.iconst (v := 1) rfl (by decide) ?_
    refine Ev.iand rfl ?_
    refine Ev.aload_n rfl rfl ?_
    refine Ev.getf rfl rfl hsh rfl ?_
    refine Ev.iload_n rfl rfl ?_
    refine Ev.ialdN (k := k) rfl h_who rfl ⟨(by omega), by decide⟩ ?_
    refine Ev.ishl rfl ?_
    refine Ev.ior rfl ?_
    refine Ev.istore_n rfl rfl rfl ?_
    refine Ev.iinc (d := 1) rfl rfl rfl (by decide) rfl ?_
    refine Ev.goto (tgt := 4) rfl (by decide) ?_
    have hF : (F_lOf_4 n wo w) k z = z ||| (((w >>> ((nI k) &&& 31)) &&& (1 : Int32)) <<< ((wo k) &&& 31)) := by rfl
    rw [hF] at hx
    exact hx.fg (gs rfl (gs rfl (gs rfl (gs (congrArg Value.int (show nI (k + 1) = (nI k) + (1 : Int32) from (nq_to (a := k + 1) (nq_add (a := k) (b := 1) rfl (rfl : (1 : Int32) = nI 1)) (by omega)).symm)) gz))))
  · skip
    refine Ev.iload_n rfl rfl ?_
    refine Ev.aload_n rfl rfl ?_
    refine Ev.getf rfl rfl hsh rfl ?_
    refine Ev.jge (tgt := 33) rfl (by decide) (fun c9 => ?_) (fun c9 => absurd c9 (nI_nlt (Nat.le_refl _) (by omega)))
    refine Ev.iload_n rfl rfl ?_
    refine Ev.iret (ty := .int) rfl rfl rfl (Nat.le_refl _) (Nat.le_refl _) ?_
    rw [← hQ]
    refine ⟨congrArg (fun v => some (Value.int v)) (Eq.symm ?_), rfl⟩
    rfl
def F_maySit_34 (S : Sch) (C : Les) (w : Int32) : Nat → Unit → (Unit) ⊕ Int32 := fun k z => if ((S.2.2 3) k) = (-1 : Int32) then (if ((w >>> ((nI k) &&& 31)) &&& (1 : Int32)) = (0 : Int32) then (.inl ()) else (if (K_can S C (nI k)) = (0 : Int32) then (.inr (0 : Int32)) else (.inl ()))) else (if ((w >>> (((S.2.2 3) k) &&& 31)) &&& (1 : Int32)) = (0 : Int32) then (if ((w >>> ((nI k) &&& 31)) &&& (1 : Int32)) = (0 : Int32) then (.inl ()) else (.inr (0 : Int32))) else (if ((w >>> ((nI k) &&& 31)) &&& (1 : Int32)) = (0 : Int32) then (.inl ()) else (if (K_can S C (nI k)) = (0 : Int32) then (.inr (0 : Int32)) else (.inl ()))))
def K_maySit (S : Sch) (C : Les) (w : Int32) : Int32 := if (K_bc w) = (0 : Int32) then (Sum.elim (fun (zx : Unit) => (1 : Int32)) (fun (rx : Int32) => rx) (fe (F_maySit_34 S C w) (S.1) 0 ())) else (if (K_bc w) < ((S.2.2 9) 2) then (0 : Int32) else (if ((S.2.2 9) 3) < (K_bc w) then (0 : Int32) else (Sum.elim (fun (zx : Unit) => (1 : Int32)) (fun (rx : Int32) => rx) (fe (F_maySit_34 S C w) (S.1) 0 ()))))
theorem maySit_ok {c : Nat} {C : Les} (hS : isS σ a S) (hC : isL σ c C) (hn16 : S.1 ≤ 16) (w : Int32) : RetV Γ m_Sharing_maySit [(.ref a), (.ref c), (.int w)] σ (.int (K_maySit S C w)) := by
  obtain ⟨h0, h1, h2, h3, h4, h5, h6', h7, h8, h9, h10⟩ := id hS
  unfold RetV
  generalize hQ : (fun (r : Option Value) (σ' : ex_S) => r = some ((.int (K_maySit S C w)) : Value) ∧ σ' = σ) = Q
  refine Ret.start pm_147 rfl ?_
  refine Ev.iload_n rfl rfl ?_
  refine Ev.cS1 rfl rfl rfl (by decide) ⟨(Nat.le_refl _), (Nat.le_refl _)⟩ (bc_ok _) ?_
  refine Ev.istore_n rfl rfl rfl ?_
  refine Ev.iload_n rfl rfl ?_
  refine Ev.zeq (tgt := 31) rfl (by decide) (fun c6 => ?_) (fun c6 => ?_)
  · skip
    refine Ev.iconst (v := 0) rfl (by decide) ?_
    refine Ev.istore rfl rfl rfl ?_
    refine Ev.fg (L := [some (.ref a), some (.ref c), some (.int w), none, some (.int (nI 0)), none, none]) ?_ (gs rfl (gs rfl (gs rfl (gn (gs (congrArg Value.int (rfl : (0 : Int32) = nI 0).symm) (gn (gn gz)))))))
    refine lpe (fun (k : Nat) (z : Unit) => Ev Γ 0 0 m_Sharing_maySit 0 0 34 [some (.ref a), some (.ref c), some (.int w), none, some (.int (nI k)), none, none] [] σ Q) (fun (r : Int32) => Q (some (.int r)) σ) (F_maySit_34 S C w) (S.1) (fun k z hk hx he => ?_) (S.1) 0 () (by omega) (fun zx hzx => ?_) (fun rx hrx => ?_)
    · skip
      refine Ev.iload rfl rfl ?_
      refine Ev.aload_n rfl rfl ?_
      refine Ev.getf rfl rfl h0 rfl ?_
      refine Ev.jge (tgt := 106) rfl (by decide) (fun c40 => absurd (nI_lt hk (by omega)) c40) (fun c40 => ?_)
      refine Ev.aload_n rfl rfl ?_
      refine Ev.getf rfl rfl h0 rfl ?_
      refine Ev.iload rfl rfl ?_
      refine Ev.ialdN (k := k) rfl h4 rfl ⟨(by omega), by decide⟩ ?_
      refine Ev.istore rfl rfl rfl ?_
      refine Ev.iload rfl rfl ?_
      refine Ev.iconst (v := (-1)) rfl (by decide) ?_
      refine Ev.jeq (tgt := 71) rfl (by decide) (fun c55 => ?_) (fun c55 => ?_)
      · skip
        refine Ev.iconst (v := 0) rfl (by decide) ?_
        refine Ev.istore rfl rfl rfl ?_
        refine Ev.iload_n rfl rfl ?_
        refine Ev.iload rfl rfl ?_
        refine Ev.ishr rfl ?_
        refine Ev.iconst (v := 1) rfl (by decide) ?_
        refine Ev.iand rfl ?_
        refine Ev.zeq (tgt := 100) rfl (by decide) (fun c80 => ?_) (fun c80 => ?_)
        · skip
          refine Ev.iinc (d := 1) rfl rfl rfl (by decide) rfl ?_
          refine Ev.goto (tgt := 34) rfl (by decide) ?_
          have hF : (F_maySit_34 S C w) k z = .inl () := by
            unfold F_maySit_34
            rw [if_pos c55]
            rw [if_pos c80]
          exact (hx _ hF).fg (gs rfl (gs rfl (gs rfl (gn (gs (congrArg Value.int (show nI (k + 1) = (nI k) + (1 : Int32) from (nq_to (a := k + 1) (nq_add (a := k) (b := 1) rfl (rfl : (1 : Int32) = nI 1)) (by omega)).symm)) (gn (gn gz)))))))
        · skip
          refine Ev.iload rfl rfl ?_
          refine Ev.zne (tgt := 98) rfl (by decide) (fun c85 => absurd (by decide) c85) (fun c85 => ?_)
          refine Ev.aload_n rfl rfl ?_
          refine Ev.aload_n rfl rfl ?_
          refine Ev.iload rfl rfl ?_
          refine Ev.cV2 rfl rfl h0 rfl rfl (by decide) ⟨(Nat.le_refl _), (Nat.le_refl _)⟩ (can_ok hS hC _ (kd_in (by omega) (by decide))) ?_
          refine Ev.zne (tgt := 100) rfl (by decide) (fun c95 => ?_) (fun c95 => ?_)
          · skip
            refine Ev.iinc (d := 1) rfl rfl rfl (by decide) rfl ?_
            refine Ev.goto (tgt := 34) rfl (by decide) ?_
            have hF : (F_maySit_34 S C w) k z = .inl () := by
              unfold F_maySit_34
              rw [if_pos c55]
              rw [if_neg c80]
              rw [if_neg c95]
            exact (hx _ hF).fg (gs rfl (gs rfl (gs rfl (gn (gs (congrArg Value.int (show nI (k + 1) = (nI k) + (1 : Int32) from (nq_to (a := k + 1) (nq_add (a := k) (b := 1) rfl (rfl : (1 : Int32) = nI 1)) (by omega)).symm)) (gn (gn gz)))))))
          · skip
            refine Ev.iconst (v := 0) rfl (by decide) ?_
            refine Ev.iret (ty := .boolean) rfl rfl rfl (Nat.le_refl _) (Nat.le_refl _) ?_
            refine he _ ?_
            unfold F_maySit_34
            rw [if_pos c55]
            rw [if_neg c80]
            rw [if_pos c95]
      · skip
        refine Ev.iload_n rfl rfl ?_
        refine Ev.iload rfl rfl ?_
        refine Ev.ishr rfl ?_
        refine Ev.iconst (v := 1) rfl (by decide) ?_
        refine Ev.iand rfl ?_
        refine Ev.zne (tgt := 71) rfl (by decide) (fun c64 => ?_) (fun c64 => ?_)
        · skip
          refine Ev.iconst (v := 0) rfl (by decide) ?_
          refine Ev.istore rfl rfl rfl ?_
          refine Ev.iload_n rfl rfl ?_
          refine Ev.iload rfl rfl ?_
          refine Ev.ishr rfl ?_
          refine Ev.iconst (v := 1) rfl (by decide) ?_
          refine Ev.iand rfl ?_
          refine Ev.zeq (tgt := 100) rfl (by decide) (fun c80 => ?_) (fun c80 => ?_)
          · skip
            refine Ev.iinc (d := 1) rfl rfl rfl (by decide) rfl ?_
            refine Ev.goto (tgt := 34) rfl (by decide) ?_
            have hF : (F_maySit_34 S C w) k z = .inl () := by
              unfold F_maySit_34
              rw [if_neg c55]
              rw [if_neg c64]
              rw [if_pos c80]
            exact (hx _ hF).fg (gs rfl (gs rfl (gs rfl (gn (gs (congrArg Value.int (show nI (k + 1) = (nI k) + (1 : Int32) from (nq_to (a := k + 1) (nq_add (a := k) (b := 1) rfl (rfl : (1 : Int32) = nI 1)) (by omega)).symm)) (gn (gn gz)))))))
          · skip
            refine Ev.iload rfl rfl ?_
            refine Ev.zne (tgt := 98) rfl (by decide) (fun c85 => absurd (by decide) c85) (fun c85 => ?_)
            refine Ev.aload_n rfl rfl ?_
            refine Ev.aload_n rfl rfl ?_
            refine Ev.iload rfl rfl ?_
            refine Ev.cV2 rfl rfl h0 rfl rfl (by decide) ⟨(Nat.le_refl _), (Nat.le_refl _)⟩ (can_ok hS hC _ (kd_in (by omega) (by decide))) ?_
            refine Ev.zne (tgt := 100) rfl (by decide) (fun c95 => ?_) (fun c95 => ?_)
            · skip
              refine Ev.iinc (d := 1) rfl rfl rfl (by decide) rfl ?_
              refine Ev.goto (tgt := 34) rfl (by decide) ?_
              have hF : (F_maySit_34 S C w) k z = .inl () := by
                unfold F_maySit_34
                rw [if_neg c55]
                rw [if_neg c64]
                rw [if_neg c80]
                rw [if_neg c95]
              exact (hx _ hF).fg (gs rfl (gs rfl (gs rfl (gn (gs (congrArg Value.int (show nI (k + 1) = (nI k) + (1 : Int32) from (nq_to (a := k + 1) (nq_add (a := k) (b := 1) rfl (rfl : (1 : Int32) = nI 1)) (by omega)).symm)) (gn (gn gz)))))))
            · skip
              refine Ev.iconst (v := 0) rfl (by decide) ?_
              refine Ev.iret (ty := .boolean) rfl rfl rfl (Nat.le_refl _) (Nat.le_refl _) ?_
              refine he _ ?_
              unfold F_maySit_34
              rw [if_neg c55]
              rw [if_neg c64]
              rw [if_neg c80]
              rw [if_pos c95]
        · skip
          refine Ev.iconst (v := 1) rfl (by decide) ?_
          refine Ev.goto (tgt := 72) rfl (by decide) ?_
          refine Ev.istore rfl rfl rfl ?_
          refine Ev.iload_n rfl rfl ?_
          refine Ev.iload rfl rfl ?_
          refine Ev.ishr rfl ?_
          refine Ev.iconst (v := 1) rfl (by decide) ?_
          refine Ev.iand rfl ?_
          refine Ev.zeq (tgt := 100) rfl (by decide) (fun c80 => ?_) (fun c80 => ?_)
          · skip
            refine Ev.iinc (d := 1) rfl rfl rfl (by decide) rfl ?_
            refine Ev.goto (tgt := 34) rfl (by decide) ?_
            have hF : (F_maySit_34 S C w) k z = .inl () := by
              unfold F_maySit_34
              rw [if_neg c55]
              rw [if_pos c64]
              rw [if_pos c80]
            exact (hx _ hF).fg (gs rfl (gs rfl (gs rfl (gn (gs (congrArg Value.int (show nI (k + 1) = (nI k) + (1 : Int32) from (nq_to (a := k + 1) (nq_add (a := k) (b := 1) rfl (rfl : (1 : Int32) = nI 1)) (by omega)).symm)) (gn (gn gz)))))))
          · skip
            refine Ev.iload rfl rfl ?_
            refine Ev.zne (tgt := 98) rfl (by decide) (fun c85 => ?_) (fun c85 => absurd c85 (by decide))
            refine Ev.iconst (v := 0) rfl (by decide) ?_
            refine Ev.iret (ty := .boolean) rfl rfl rfl (Nat.le_refl _) (Nat.le_refl _) ?_
            refine he _ ?_
            unfold F_maySit_34
            rw [if_neg c55]
            rw [if_pos c64]
            rw [if_neg c80]
    · skip
      refine Ev.iload rfl rfl ?_
      refine Ev.aload_n rfl rfl ?_
      refine Ev.getf rfl rfl h0 rfl ?_
      refine Ev.jge (tgt := 106) rfl (by decide) (fun c40 => ?_) (fun c40 => absurd c40 (nI_nlt (Nat.le_refl _) (by omega)))
      refine Ev.iconst (v := 1) rfl (by decide) ?_
      refine Ev.iret (ty := .boolean) rfl rfl rfl (Nat.le_refl _) (Nat.le_refl _) ?_
      rw [← hQ]
      refine ⟨congrArg (fun v => some (Value.int v)) (Eq.symm ?_), rfl⟩
      unfold K_maySit
      rw [if_pos c6]
      rw [hzx, Sum.elim_inl]
    · skip
      rw [← hQ]
      refine ⟨congrArg (fun v => some (Value.int v)) (Eq.symm ?_), rfl⟩
      unfold K_maySit
      rw [if_pos c6]
      rw [hrx, Sum.elim_inr]
  · skip
    refine Ev.iload_n rfl rfl ?_
    refine Ev.aload_n rfl rfl ?_
    refine Ev.getf rfl rfl h0 rfl ?_
    refine Ev.iconst (v := 2) rfl (by decide) ?_
    refine Ev.ialdN (k := 2) rfl h10 (rfl : (2 : Int32) = nI 2) ⟨(by omega), by decide⟩ ?_
    refine Ev.jlt (tgt := 29) rfl (by decide) (fun c16 => ?_) (fun c16 => ?_)
    · skip
      refine Ev.iconst (v := 0) rfl (by decide) ?_
      refine Ev.iret (ty := .boolean) rfl rfl rfl (Nat.le_refl _) (Nat.le_refl _) ?_
      rw [← hQ]
      refine ⟨congrArg (fun v => some (Value.int v)) (Eq.symm ?_), rfl⟩
      unfold K_maySit
      rw [if_neg c6]
      rw [if_pos c16]
    · skip
      refine Ev.iload_n rfl rfl ?_
      refine Ev.aload_n rfl rfl ?_
      refine Ev.getf rfl rfl h0 rfl ?_
      refine Ev.iconst (v := 3) rfl (by decide) ?_
      refine Ev.ialdN (k := 3) rfl h10 (rfl : (3 : Int32) = nI 3) ⟨(by omega), by decide⟩ ?_
      refine Ev.jle (tgt := 31) rfl (by decide) (fun c26 => ?_) (fun c26 => ?_)
      · skip
        refine Ev.iconst (v := 0) rfl (by decide) ?_
        refine Ev.istore rfl rfl rfl ?_
        refine Ev.fg (L := [some (.ref a), some (.ref c), some (.int w), none, some (.int (nI 0)), none, none]) ?_ (gs rfl (gs rfl (gs rfl (gn (gs (congrArg Value.int (rfl : (0 : Int32) = nI 0).symm) (gn (gn gz)))))))
        refine lpe (fun (k : Nat) (z : Unit) => Ev Γ 0 0 m_Sharing_maySit 0 0 34 [some (.ref a), some (.ref c), some (.int w), none, some (.int (nI k)), none, none] [] σ Q) (fun (r : Int32) => Q (some (.int r)) σ) (F_maySit_34 S C w) (S.1) (fun k z hk hx he => ?_) (S.1) 0 () (by omega) (fun zx hzx => ?_) (fun rx hrx => ?_)
        · skip
          refine Ev.iload rfl rfl ?_
          refine Ev.aload_n rfl rfl ?_
          refine Ev.getf rfl rfl h0 rfl ?_
          refine Ev.jge (tgt := 106) rfl (by decide) (fun c40 => absurd (nI_lt hk (by omega)) c40) (fun c40 => ?_)
          refine Ev.aload_n rfl rfl ?_
          refine Ev.getf rfl rfl h0 rfl ?_
          refine Ev.iload rfl rfl ?_
          refine Ev.ialdN (k := k) rfl h4 rfl ⟨(by omega), by decide⟩ ?_
          refine Ev.istore rfl rfl rfl ?_
          refine Ev.iload rfl rfl ?_
          refine Ev.iconst (v := (-1)) rfl (by decide) ?_
          refine Ev.jeq (tgt := 71) rfl (by decide) (fun c55 => ?_) (fun c55 => ?_)
          · skip
            refine Ev.iconst (v := 0) rfl (by decide) ?_
            refine Ev.istore rfl rfl rfl ?_
            refine Ev.iload_n rfl rfl ?_
            refine Ev.iload rfl rfl ?_
            refine Ev.ishr rfl ?_
            refine Ev.iconst (v := 1) rfl (by decide) ?_
            refine Ev.iand rfl ?_
            refine Ev.zeq (tgt := 100) rfl (by decide) (fun c80 => ?_) (fun c80 => ?_)
            · skip
              refine Ev.iinc (d := 1) rfl rfl rfl (by decide) rfl ?_
              refine Ev.goto (tgt := 34) rfl (by decide) ?_
              have hF : (F_maySit_34 S C w) k z = .inl () := by
                unfold F_maySit_34
                rw [if_pos c55]
                rw [if_pos c80]
              exact (hx _ hF).fg (gs rfl (gs rfl (gs rfl (gn (gs (congrArg Value.int (show nI (k + 1) = (nI k) + (1 : Int32) from (nq_to (a := k + 1) (nq_add (a := k) (b := 1) rfl (rfl : (1 : Int32) = nI 1)) (by omega)).symm)) (gn (gn gz)))))))
            · skip
              refine Ev.iload rfl rfl ?_
              refine Ev.zne (tgt := 98) rfl (by decide) (fun c85 => absurd (by decide) c85) (fun c85 => ?_)
              refine Ev.aload_n rfl rfl ?_
              refine Ev.aload_n rfl rfl ?_
              refine Ev.iload rfl rfl ?_
              refine Ev.cV2 rfl rfl h0 rfl rfl (by decide) ⟨(Nat.le_refl _), (Nat.le_refl _)⟩ (can_ok hS hC _ (kd_in (by omega) (by decide))) ?_
              refine Ev.zne (tgt := 100) rfl (by decide) (fun c95 => ?_) (fun c95 => ?_)
              · skip
                refine Ev.iinc (d := 1) rfl rfl rfl (by decide) rfl ?_
                refine Ev.goto (tgt := 34) rfl (by decide) ?_
                have hF : (F_maySit_34 S C w) k z = .inl () := by
                  unfold F_maySit_34
                  rw [if_pos c55]
                  rw [if_neg c80]
                  rw [if_neg c95]
                exact (hx _ hF).fg (gs rfl (gs rfl (gs rfl (gn (gs (congrArg Value.int (show nI (k + 1) = (nI k) + (1 : Int32) from (nq_to (a := k + 1) (nq_add (a := k) (b := 1) rfl (rfl : (1 : Int32) = nI 1)) (by omega)).symm)) (gn (gn gz)))))))
              · skip
                refine Ev.iconst (v := 0) rfl (by decide) ?_
                refine Ev.iret (ty := .boolean) rfl rfl rfl (Nat.le_refl _) (Nat.le_refl _) ?_
                refine he _ ?_
                unfold F_maySit_34
                rw [if_pos c55]
                rw [if_neg c80]
                rw [if_pos c95]
          · skip
            refine Ev.iload_n rfl rfl ?_
            refine Ev.iload rfl rfl ?_
            refine Ev.ishr rfl ?_
            refine Ev.iconst (v := 1) rfl (by decide) ?_
            refine Ev.iand rfl ?_
            refine Ev.zne (tgt := 71) rfl (by decide) (fun c64 => ?_) (fun c64 => ?_)
            · skip
              refine Ev.iconst (v := 0) rfl (by decide) ?_
              refine Ev.istore rfl rfl rfl ?_
              refine Ev.iload_n rfl rfl ?_
              refine Ev.iload rfl rfl ?_
              refine Ev.ishr rfl ?_
              refine Ev.iconst (v := 1) rfl (by decide) ?_
              refine Ev.iand rfl ?_
              refine Ev.zeq (tgt := 100) rfl (by decide) (fun c80 => ?_) (fun c80 => ?_)
              · skip
                refine Ev.iinc (d := 1) rfl rfl rfl (by decide) rfl ?_
                refine Ev.goto (tgt := 34) rfl (by decide) ?_
                have hF : (F_maySit_34 S C w) k z = .inl () := by
                  unfold F_maySit_34
                  rw [if_neg c55]
                  rw [if_neg c64]
                  rw [if_pos c80]
                exact (hx _ hF).fg (gs rfl (gs rfl (gs rfl (gn (gs (congrArg Value.int (show nI (k + 1) = (nI k) + (1 : Int32) from (nq_to (a := k + 1) (nq_add (a := k) (b := 1) rfl (rfl : (1 : Int32) = nI 1)) (by omega)).symm)) (gn (gn gz)))))))
              · skip
                refine Ev.iload rfl rfl ?_
                refine Ev.zne (tgt := 98) rfl (by decide) (fun c85 => absurd (by decide) c85) (fun c85 => ?_)
                refine Ev.aload_n rfl rfl ?_
                refine Ev.aload_n rfl rfl ?_
                refine Ev.iload rfl rfl ?_
                refine Ev.cV2 rfl rfl h0 rfl rfl (by decide) ⟨(Nat.le_refl _), (Nat.le_refl _)⟩ (can_ok hS hC _ (kd_in (by omega) (by decide))) ?_
                refine Ev.zne (tgt := 100) rfl (by decide) (fun c95 => ?_) (fun c95 => ?_)
                · skip
                  refine Ev.iinc (d := 1) rfl rfl rfl (by decide) rfl ?_
                  refine Ev.goto (tgt := 34) rfl (by decide) ?_
                  have hF : (F_maySit_34 S C w) k z = .inl () := by
                    unfold F_maySit_34
                    rw [if_neg c55]
                    rw [if_neg c64]
                    rw [if_neg c80]
                    rw [if_neg c95]
                  exact (hx _ hF).fg (gs rfl (gs rfl (gs rfl (gn (gs (congrArg Value.int (show nI (k + 1) = (nI k) + (1 : Int32) from (nq_to (a := k + 1) (nq_add (a := k) (b := 1) rfl (rfl : (1 : Int32) = nI 1)) (by omega)).symm)) (gn (gn gz)))))))
                · skip
                  refine Ev.iconst (v := 0) rfl (by decide) ?_
                  refine Ev.iret (ty := .boolean) rfl rfl rfl (Nat.le_refl _) (Nat.le_refl _) ?_
                  refine he _ ?_
                  unfold F_maySit_34
                  rw [if_neg c55]
                  rw [if_neg c64]
                  rw [if_neg c80]
                  rw [if_pos c95]
            · skip
              refine Ev.iconst (v := 1) rfl (by decide) ?_
              refine Ev.goto (tgt := 72) rfl (by decide) ?_
              refine Ev.istore rfl rfl rfl ?_
              refine Ev.iload_n rfl rfl ?_
              refine Ev.iload rfl rfl ?_
              refine Ev.ishr rfl ?_
              refine Ev.iconst (v := 1) rfl (by decide) ?_
              refine Ev.iand rfl ?_
              refine Ev.zeq (tgt := 100) rfl (by decide) (fun c80 => ?_) (fun c80 => ?_)
              · skip
                refine Ev.iinc (d := 1) rfl rfl rfl (by decide) rfl ?_
                refine Ev.goto (tgt := 34) rfl (by decide) ?_
                have hF : (F_maySit_34 S C w) k z = .inl () := by
                  unfold F_maySit_34
                  rw [if_neg c55]
                  rw [if_pos c64]
                  rw [if_pos c80]
                exact (hx _ hF).fg (gs rfl (gs rfl (gs rfl (gn (gs (congrArg Value.int (show nI (k + 1) = (nI k) + (1 : Int32) from (nq_to (a := k + 1) (nq_add (a := k) (b := 1) rfl (rfl : (1 : Int32) = nI 1)) (by omega)).symm)) (gn (gn gz)))))))
              · skip
                refine Ev.iload rfl rfl ?_
                refine Ev.zne (tgt := 98) rfl (by decide) (fun c85 => ?_) (fun c85 => absurd c85 (by decide))
                refine Ev.iconst (v := 0) rfl (by decide) ?_
                refine Ev.iret (ty := .boolean) rfl rfl rfl (Nat.le_refl _) (Nat.le_refl _) ?_
                refine he _ ?_
                unfold F_maySit_34
                rw [if_neg c55]
                rw [if_pos c64]
                rw [if_neg c80]
        · skip
          refine Ev.iload rfl rfl ?_
          refine Ev.aload_n rfl rfl ?_
          refine Ev.getf rfl rfl h0 rfl ?_
          refine Ev.jge (tgt := 106) rfl (by decide) (fun c40 => ?_) (fun c40 => absurd c40 (nI_nlt (Nat.le_refl _) (by omega)))
          refine Ev.iconst (v := 1) rfl (by decide) ?_
          refine Ev.iret (ty := .boolean) rfl rfl rfl (Nat.le_refl _) (Nat.le_refl _) ?_
          rw [← hQ]
          refine ⟨congrArg (fun v => some (Value.int v)) (Eq.symm ?_), rfl⟩
          unfold K_maySit
          rw [if_neg c6]
          rw [if_neg c16]
          rw [if_neg c26]
          rw [hzx, Sum.elim_inl]
        · skip
          rw [← hQ]
          refine ⟨congrArg (fun v => some (Value.int v)) (Eq.symm ?_), rfl⟩
          unfold K_maySit
          rw [if_neg c6]
          rw [if_neg c16]
          rw [if_neg c26]
          rw [hrx, Sum.elim_inr]
      · skip
        refine Ev.iconst (v := 0) rfl (by decide) ?_
        refine Ev.iret (ty := .boolean) rfl rfl rfl (Nat.le_refl _) (Nat.le_refl _) ?_
        rw [← hQ]
        refine ⟨congrArg (fun v => some (Value.int v)) (Eq.symm ?_), rfl⟩
        unfold K_maySit
        rw [if_neg c6]
        rw [if_neg c16]
        rw [if_pos c26]
def F_mayCome_30 (n : Nat) (wo : Nat → Int32) (S : Sch) (C : Les) (w : Int32) : Nat → Unit → (Unit) ⊕ Int32 := fun k z => if ((w >>> ((nI k) &&& 31)) &&& (1 : Int32)) = (0 : Int32) then (.inl ()) else (if (K_can S C (wo k)) = (0 : Int32) then (.inr (0 : Int32)) else (.inl ()))
def K_mayCome (n : Nat) (wo : Nat → Int32) (S : Sch) (C : Les) (w : Int32) : Int32 := if w = (0 : Int32) then (Sum.elim (fun (zx : Unit) => (1 : Int32)) (fun (rx : Int32) => rx) (fe (F_mayCome_30 n wo S C w) (n) 0 ())) else (if ((S.2.2 9) 3) < ((K_bc (C 5)) + (K_bc w)) then (0 : Int32) else (Sum.elim (fun (zx : Unit) => (1 : Int32)) (fun (rx : Int32) => rx) (fe (F_mayCome_30 n wo S C w) (n) 0 ())))
theorem mayCome_ok {n : Nat} {wo be we : Nat → Int32} (hsh : σ.2 (q) = some (.inr (.inr (7, [.ref (q + 1), .int (nI n), .ref (q + 2), .ref (q + 3)])))) (h_who : σ.2 (q + 1) = some (.inl (0, 8, wo))) (h_best : σ.2 (q + 2) = some (.inl (0, 256, be))) (h_worth : σ.2 (q + 3) = some (.inl (0, 256, we))) {c : Nat} {C : Les} (hS : isS σ a S) (hC : isL σ c C) (hn8 : n ≤ 8) (hwho : ∀ i, i < n → wo i = nI (wo i).toNatClampNeg ∧ (wo i).toNatClampNeg < 16) (w : Int32) : RetV Γ m_Sharing_mayCome [(.ref q), (.ref a), (.ref c), (.int w)] σ (.int (K_mayCome n wo S C w)) := by
  obtain ⟨h0, h1, h2, h3, h4, h5, h6', h7, h8, h9, h10⟩ := id hS
  unfold RetV
  generalize hQ : (fun (r : Option Value) (σ' : ex_S) => r = some ((.int (K_mayCome n wo S C w)) : Value) ∧ σ' = σ) = Q
  refine Ret.start pm_148 rfl ?_
  refine Ev.iload_n rfl rfl ?_
  refine Ev.zeq (tgt := 27) rfl (by decide) (fun c1 => ?_) (fun c1 => ?_)
  · skip
    refine Ev.iconst (v := 0) rfl (by decide) ?_
    refine Ev.istore rfl rfl rfl ?_
    refine Ev.fg (L := [some (.ref q), some (.ref a), some (.ref c), some (.int w), some (.int (nI 0))]) ?_ (gs rfl (gs rfl (gs rfl (gs rfl (gs (congrArg Value.int (rfl : (0 : Int32) = nI 0).symm) gz)))))
    refine lpe (fun (k : Nat) (z : Unit) => Ev Γ 0 0 m_Sharing_mayCome 0 0 30 [some (.ref q), some (.ref a), some (.ref c), some (.int w), some (.int (nI k))] [] σ Q) (fun (r : Int32) => Q (some (.int r)) σ) (F_mayCome_30 n wo S C w) (n) (fun k z hk hx he => ?_) (n) 0 () (by omega) (fun zx hzx => ?_) (fun rx hrx => ?_)
    · skip
      refine Ev.iload rfl rfl ?_
      refine Ev.aload_n rfl rfl ?_
      refine Ev.getf rfl rfl hsh rfl ?_
      refine Ev.jge (tgt := 71) rfl (by decide) (fun c36 => absurd (nI_lt hk (by omega)) c36) (fun c36 => ?_)
      refine Ev.iload_n rfl rfl ?_
      refine Ev.iload rfl rfl ?_
      refine Ev.ishr rfl ?_
      refine Ev.iconst (v := 1) rfl (by decide) ?_
      refine Ev.iand rfl ?_
      refine Ev.zeq (tgt := 65) rfl (by decide) (fun c45 => ?_) (fun c45 => ?_)
      · skip
        refine Ev.iinc (d := 1) rfl rfl rfl (by decide) rfl ?_
        refine Ev.goto (tgt := 30) rfl (by decide) ?_
        have hF : (F_mayCome_30 n wo S C w) k z = .inl () := by
          unfold F_mayCome_30
          rw [if_pos c45]
        exact (hx _ hF).fg (gs rfl (gs rfl (gs rfl (gs rfl (gs (congrArg Value.int (show nI (k + 1) = (nI k) + (1 : Int32) from (nq_to (a := k + 1) (nq_add (a := k) (b := 1) rfl (rfl : (1 : Int32) = nI 1)) (by omega)).symm)) gz)))))
      · skip
        refine Ev.aload_n rfl rfl ?_
        refine Ev.aload_n rfl rfl ?_
        refine Ev.aload_n rfl rfl ?_
        refine Ev.getf rfl rfl hsh rfl ?_
        refine Ev.iload rfl rfl ?_
        refine Ev.ialdN (k := k) rfl h_who rfl ⟨(by omega), by decide⟩ ?_
        have hwb := (hwho k (by omega)).2
        refine Ev.cV2 rfl rfl h0 rfl rfl (by decide) ⟨(Nat.le_refl _), (Nat.le_refl _)⟩ (can_ok hS hC _ (vp_of (hwho k (by omega)).1 (by omega))) ?_
        refine Ev.zne (tgt := 65) rfl (by decide) (fun c60 => ?_) (fun c60 => ?_)
        · skip
          refine Ev.iinc (d := 1) rfl rfl rfl (by decide) rfl ?_
          refine Ev.goto (tgt := 30) rfl (by decide) ?_
          have hF : (F_mayCome_30 n wo S C w) k z = .inl () := by
            unfold F_mayCome_30
            rw [if_neg c45]
            rw [if_neg c60]
          exact (hx _ hF).fg (gs rfl (gs rfl (gs rfl (gs rfl (gs (congrArg Value.int (show nI (k + 1) = (nI k) + (1 : Int32) from (nq_to (a := k + 1) (nq_add (a := k) (b := 1) rfl (rfl : (1 : Int32) = nI 1)) (by omega)).symm)) gz)))))
        · skip
          refine Ev.iconst (v := 0) rfl (by decide) ?_
          refine Ev.iret (ty := .boolean) rfl rfl rfl (Nat.le_refl _) (Nat.le_refl _) ?_
          refine he _ ?_
          unfold F_mayCome_30
          rw [if_neg c45]
          rw [if_pos c60]
    · skip
      refine Ev.iload rfl rfl ?_
      refine Ev.aload_n rfl rfl ?_
      refine Ev.getf rfl rfl hsh rfl ?_
      refine Ev.jge (tgt := 71) rfl (by decide) (fun c36 => ?_) (fun c36 => absurd c36 (nI_nlt (Nat.le_refl _) (by omega)))
      refine Ev.iconst (v := 1) rfl (by decide) ?_
      refine Ev.iret (ty := .boolean) rfl rfl rfl (Nat.le_refl _) (Nat.le_refl _) ?_
      rw [← hQ]
      refine ⟨congrArg (fun v => some (Value.int v)) (Eq.symm ?_), rfl⟩
      unfold K_mayCome
      rw [if_pos c1]
      rw [hzx, Sum.elim_inl]
    · skip
      rw [← hQ]
      refine ⟨congrArg (fun v => some (Value.int v)) (Eq.symm ?_), rfl⟩
      unfold K_mayCome
      rw [if_pos c1]
      rw [hrx, Sum.elim_inr]
  · skip
    refine Ev.aload_n rfl rfl ?_
    refine Ev.getf rfl rfl hC rfl ?_
    refine Ev.cS1 rfl rfl rfl (by decide) ⟨(Nat.le_refl _), (Nat.le_refl _)⟩ (bc_ok _) ?_
    refine Ev.iload_n rfl rfl ?_
    refine Ev.cS1 rfl rfl rfl (by decide) ⟨(Nat.le_refl _), (Nat.le_refl _)⟩ (bc_ok _) ?_
    refine Ev.iadd rfl ?_
    refine Ev.aload_n rfl rfl ?_
    refine Ev.getf rfl rfl h0 rfl ?_
    refine Ev.iconst (v := 3) rfl (by decide) ?_
    refine Ev.ialdN (k := 3) rfl h10 (rfl : (3 : Int32) = nI 3) ⟨(by omega), by decide⟩ ?_
    refine Ev.jle (tgt := 27) rfl (by decide) (fun c22 => ?_) (fun c22 => ?_)
    · skip
      refine Ev.iconst (v := 0) rfl (by decide) ?_
      refine Ev.istore rfl rfl rfl ?_
      refine Ev.fg (L := [some (.ref q), some (.ref a), some (.ref c), some (.int w), some (.int (nI 0))]) ?_ (gs rfl (gs rfl (gs rfl (gs rfl (gs (congrArg Value.int (rfl : (0 : Int32) = nI 0).symm) gz)))))
      refine lpe (fun (k : Nat) (z : Unit) => Ev Γ 0 0 m_Sharing_mayCome 0 0 30 [some (.ref q), some (.ref a), some (.ref c), some (.int w), some (.int (nI k))] [] σ Q) (fun (r : Int32) => Q (some (.int r)) σ) (F_mayCome_30 n wo S C w) (n) (fun k z hk hx he => ?_) (n) 0 () (by omega) (fun zx hzx => ?_) (fun rx hrx => ?_)
      · skip
        refine Ev.iload rfl rfl ?_
        refine Ev.aload_n rfl rfl ?_
        refine Ev.getf rfl rfl hsh rfl ?_
        refine Ev.jge (tgt := 71) rfl (by decide) (fun c36 => absurd (nI_lt hk (by omega)) c36) (fun c36 => ?_)
        refine Ev.iload_n rfl rfl ?_
        refine Ev.iload rfl rfl ?_
        refine Ev.ishr rfl ?_
        refine Ev.iconst (v := 1) rfl (by decide) ?_
        refine Ev.iand rfl ?_
        refine Ev.zeq (tgt := 65) rfl (by decide) (fun c45 => ?_) (fun c45 => ?_)
        · skip
          refine Ev.iinc (d := 1) rfl rfl rfl (by decide) rfl ?_
          refine Ev.goto (tgt := 30) rfl (by decide) ?_
          have hF : (F_mayCome_30 n wo S C w) k z = .inl () := by
            unfold F_mayCome_30
            rw [if_pos c45]
          exact (hx _ hF).fg (gs rfl (gs rfl (gs rfl (gs rfl (gs (congrArg Value.int (show nI (k + 1) = (nI k) + (1 : Int32) from (nq_to (a := k + 1) (nq_add (a := k) (b := 1) rfl (rfl : (1 : Int32) = nI 1)) (by omega)).symm)) gz)))))
        · skip
          refine Ev.aload_n rfl rfl ?_
          refine Ev.aload_n rfl rfl ?_
          refine Ev.aload_n rfl rfl ?_
          refine Ev.getf rfl rfl hsh rfl ?_
          refine Ev.iload rfl rfl ?_
          refine Ev.ialdN (k := k) rfl h_who rfl ⟨(by omega), by decide⟩ ?_
          have hwb := (hwho k (by omega)).2
          refine Ev.cV2 rfl rfl h0 rfl rfl (by decide) ⟨(Nat.le_refl _), (Nat.le_refl _)⟩ (can_ok hS hC _ (vp_of (hwho k (by omega)).1 (by omega))) ?_
          refine Ev.zne (tgt := 65) rfl (by decide) (fun c60 => ?_) (fun c60 => ?_)
          · skip
            refine Ev.iinc (d := 1) rfl rfl rfl (by decide) rfl ?_
            refine Ev.goto (tgt := 30) rfl (by decide) ?_
            have hF : (F_mayCome_30 n wo S C w) k z = .inl () := by
              unfold F_mayCome_30
              rw [if_neg c45]
              rw [if_neg c60]
            exact (hx _ hF).fg (gs rfl (gs rfl (gs rfl (gs rfl (gs (congrArg Value.int (show nI (k + 1) = (nI k) + (1 : Int32) from (nq_to (a := k + 1) (nq_add (a := k) (b := 1) rfl (rfl : (1 : Int32) = nI 1)) (by omega)).symm)) gz)))))
          · skip
            refine Ev.iconst (v := 0) rfl (by decide) ?_
            refine Ev.iret (ty := .boolean) rfl rfl rfl (Nat.le_refl _) (Nat.le_refl _) ?_
            refine he _ ?_
            unfold F_mayCome_30
            rw [if_neg c45]
            rw [if_pos c60]
      · skip
        refine Ev.iload rfl rfl ?_
        refine Ev.aload_n rfl rfl ?_
        refine Ev.getf rfl rfl hsh rfl ?_
        refine Ev.jge (tgt := 71) rfl (by decide) (fun c36 => ?_) (fun c36 => absurd c36 (nI_nlt (Nat.le_refl _) (by omega)))
        refine Ev.iconst (v := 1) rfl (by decide) ?_
        refine Ev.iret (ty := .boolean) rfl rfl rfl (Nat.le_refl _) (Nat.le_refl _) ?_
        rw [← hQ]
        refine ⟨congrArg (fun v => some (Value.int v)) (Eq.symm ?_), rfl⟩
        unfold K_mayCome
        rw [if_neg c1]
        rw [if_neg c22]
        rw [hzx, Sum.elim_inl]
      · skip
        rw [← hQ]
        refine ⟨congrArg (fun v => some (Value.int v)) (Eq.symm ?_), rfl⟩
        unfold K_mayCome
        rw [if_neg c1]
        rw [if_neg c22]
        rw [hrx, Sum.elim_inr]
    · skip
      refine Ev.iconst (v := 0) rfl (by decide) ?_
      refine Ev.iret (ty := .boolean) rfl rfl rfl (Nat.le_refl _) (Nat.le_refl _) ?_
      rw [← hQ]
      refine ⟨congrArg (fun v => some (Value.int v)) (Eq.symm ?_), rfl⟩
      unfold K_mayCome
      rw [if_neg c1]
      rw [if_pos c22]
def F_give_18 (n : Nat) (be we : Nat → Int32) (z : Int32 × (Nat → Int32)) : (Int32 × Int32) → (Int32 × Int32) ⊕ Int32 := fun z' => if z'.2 < (0 : Int32) then (.inr z'.1) else (if (we ((z'.2).toNatClampNeg)) = (-1000000000 : Int32) then (if z'.2 = (0 : Int32) then (.inl (z'.1, (-1 : Int32))) else (.inl (z'.1, (z'.2 - (1 : Int32)) &&& z.1))) else (if z'.2 = (0 : Int32) then (.inl (if z'.1 < ((we ((z'.2).toNatClampNeg)) + (z.2 ((z.1 &&& (z'.2 ^^^ (-1 : Int32))).toNatClampNeg))) then (we ((z'.2).toNatClampNeg)) + (z.2 ((z.1 &&& (z'.2 ^^^ (-1 : Int32))).toNatClampNeg)) else z'.1, (-1 : Int32))) else (.inl (if z'.1 < ((we ((z'.2).toNatClampNeg)) + (z.2 ((z.1 &&& (z'.2 ^^^ (-1 : Int32))).toNatClampNeg))) then (we ((z'.2).toNatClampNeg)) + (z.2 ((z.1 &&& (z'.2 ^^^ (-1 : Int32))).toNatClampNeg)) else z'.1, (z'.2 - (1 : Int32)) &&& z.1))))
def F_give_9 (n : Nat) (be we : Nat → Int32) : (Int32 × (Nat → Int32)) → (Int32 × (Nat → Int32)) ⊕ (Nat → Int32) := fun z => if z.1 < (0 : Int32) then (.inr z.2) else (.inl (z.1 + (-1 : Int32), (upd z.2 ((z.1).toNatClampNeg) (fw (F_give_18 n be we z) (0 : Int32) (z.1.toNatClampNeg + 2) ((-1000000000 : Int32), z.1)))))
theorem give_m18 {n : Nat} {be we : Nat → Int32} {z : Int32 × (Nat → Int32)} {s0 : Nat} (hs : s0 < 2 ^ 31) (e : z.1 = nI s0) (u u' : Int32 × Int32) (hj : J_sub s0 u.2) (h : F_give_18 n be we z u = .inl u') : J_sub s0 u'.2 ∧ mu_sub u'.2 < mu_sub u.2 := by
  unfold F_give_18 at h
  by_cases c : u.2 < 0
  · rw [if_pos c] at h
    cases h
  · rw [if_neg c] at h
    obtain ⟨h1, h2, -⟩ := sub_next2 hs hj c
    rw [← e] at h2
    split at h
    · split at h
      · cases h
        exact h1 (by assumption)
      · cases h
        exact h2 (by assumption)
    · split at h
      · cases h
        exact h1 (by assumption)
      · cases h
        exact h2 (by assumption)
theorem give_m9 {n : Nat} {be we : Nat → Int32} {s0 : Nat} (hs : s0 < 2 ^ 31) (u u' : Int32 × (Nat → Int32)) (hj : J_sub s0 u.1) (h : F_give_9 n be we u = .inl u') : J_sub s0 u'.1 ∧ mu_sub u'.1 < mu_sub u.1 := by
  unfold F_give_9 at h
  by_cases c : u.1 < 0
  · rw [if_pos c] at h
    cases h
  · rw [if_neg c] at h
    cases h
    exact (sub_next2 hs hj c).2.2
def K_give (n : Nat) (be we : Nat → Int32) : (Nat → Int32) := (fw (F_give_9 n be we) be (2 ^ n + 2) (nI ((2 ^ n) - 1), be))
theorem give_ok {n : Nat} {wo be we : Nat → Int32} (hsh : σ.2 (q) = some (.inr (.inr (7, [.ref (q + 1), .int (nI n), .ref (q + 2), .ref (q + 3)])))) (h_who : σ.2 (q + 1) = some (.inl (0, 8, wo))) (h_best : σ.2 (q + 2) = some (.inl (0, 256, be))) (h_worth : σ.2 (q + 3) = some (.inl (0, 256, we))) (hn8 : n ≤ 8) : RetX Γ m_Sharing_give [(.ref q)] σ q (q + 4) none (fun τ => τ.2 (q + 2) = some (.inl (0, 256, (K_give n be we))) ∧ τ.2 q = some (.inr (.inr (7, [(.ref (q + 1)), (.int (nI n)), (.ref (q + 2)), (.ref (q + 3))]))) ∧ τ.2 (q + 1) = some (.inl (0, 8, wo)) ∧ τ.2 (q + 3) = some (.inl (0, 256, we))) := by
  obtain ⟨hp1, hp2⟩ := pow8 hn8
  unfold RetX
  generalize hQ : (fun (r : Option Value) (τ : ex_S) => r = none ∧ frm σ τ q (q + 4) ∧ (fun τ : ex_S => τ.2 (q + 2) = some (.inl (0, 256, (K_give n be we))) ∧ τ.2 q = some (.inr (.inr (7, [(.ref (q + 1)), (.int (nI n)), (.ref (q + 2)), (.ref (q + 3))]))) ∧ τ.2 (q + 1) = some (.inl (0, 8, wo)) ∧ τ.2 (q + 3) = some (.inl (0, 256, we))) τ) = Q
  refine Ret.start pm_144 rfl ?_
  have fr : frm σ σ q (q + 4) := frm.rf
  refine Ev.iconst (v := 1) rfl (by decide) ?_
  refine Ev.aload_n rfl rfl ?_
  refine Ev.getf rfl rfl hsh rfl ?_
  refine Ev.ishl rfl ?_
  refine Ev.iconst (v := 1) rfl (by decide) ?_
  refine Ev.isub rfl ?_
  rw [show ((1 : Int32) <<< ((nI n) &&& 31)) - (1 : Int32) = nI ((2 ^ n) - 1) from (nq_sub (a := 2 ^ n) (b := 1) (nq_shl rfl (by omega)) (rfl : (1 : Int32) = nI 1) (by omega))]
  refine Ev.istore_n rfl rfl rfl ?_
  refine Ev.fg (L := [some (.ref q), some (.int (nI ((2 ^ n) - 1))), none, none]) ?_ (gs rfl (gs rfl (gn (gn gz))))
  refine lw (fun (z : Int32 × (Nat → Int32)) => ∀ τ' : ex_S, frm σ τ' q (q + 4) → τ'.2 q = some (.inr (.inr (7, [(.ref (q + 1)), (.int (nI n)), (.ref (q + 2)), (.ref (q + 3))]))) → τ'.2 (q + 1) = some (.inl (0, 8, wo)) → τ'.2 (q + 2) = some (.inl (0, 256, z.2)) → τ'.2 (q + 3) = some (.inl (0, 256, we)) → Ev Γ 0 0 m_Sharing_give 0 0 9 [some (.ref q), some (.int z.1), none, none] [] τ' Q) (fun (r : (Nat → Int32)) => ∀ τ' : ex_S, frm σ τ' q (q + 4) → τ'.2 q = some (.inr (.inr (7, [(.ref (q + 1)), (.int (nI n)), (.ref (q + 2)), (.ref (q + 3))]))) → τ'.2 (q + 1) = some (.inl (0, 8, wo)) → τ'.2 (q + 2) = some (.inl (0, 256, r)) → τ'.2 (q + 3) = some (.inl (0, 256, we)) → Ev Γ 0 0 m_Sharing_give 0 0 85 [none, none, none, none] [] τ' Q) (F_give_9 n be we) be (fun z => J_sub (2 ^ n - 1) z.1) (fun z => mu_sub z.1) (give_m9 (s0 := 2 ^ n - 1) (by omega)) (fun z hj hx he => ?_) (2 ^ n + 2) (nI ((2 ^ n) - 1), be) (Or.inr ⟨_, Nat.le_refl _, rfl⟩) (by unfold mu_sub; rw [if_neg (nI_pos (by omega)), nI_clamp (by omega)]; omega) ?_ σ fr hsh h_who h_best h_worth
  · skip
    intro τ' fr hsh h_who h_best h_worth
    refine Ev.iload_n rfl rfl ?_
    refine Ev.zlt (tgt := 85) rfl (by decide) (fun c10 => ?_) (fun c10 => ?_)
    · skip
      have hF : (F_give_9 n be we)  z = .inr z.2 := by
        unfold F_give_9
        rw [if_pos c10]
      exact (he _ hF τ' fr hsh h_who h_best h_worth).fg (gn (gn (gn (gn gz))))
    · skip
      have hb2 := (J_nat hj (by omega) c10).2
      refine Ev.ldc (v := (-1000000000)) rfl rfl ?_
      refine Ev.istore_n rfl rfl rfl ?_
      refine Ev.iload_n rfl rfl ?_
      refine Ev.istore_n rfl rfl rfl ?_
      refine Ev.fg (L := [some (.ref q), some (.int z.1), some (.int (-1000000000 : Int32)), some (.int z.1)]) ?_ (gs rfl (gs rfl (gs rfl (gs rfl gz))))
      refine lw (fun (z' : Int32 × Int32) => Ev Γ 0 0 m_Sharing_give 0 0 18 [some (.ref q), some (.int z.1), some (.int z'.1), some (.int z'.2)] [] τ' Q) (fun (r : Int32) => Ev Γ 0 0 m_Sharing_give 0 0 72 [some (.ref q), some (.int z.1), some (.int r), none] [] τ' Q) (F_give_18 n be we z) (0 : Int32) (fun z' => J_sub z.1.toNatClampNeg z'.2) (fun z' => mu_sub z'.2) (give_m18 (s0 := z.1.toNatClampNeg) (by omega) (J_nat hj (by omega) c10).1) (fun z' hj' hx he => ?_) (z.1.toNatClampNeg + 2) ((-1000000000 : Int32), z.1) (Or.inr ⟨_, Nat.le_refl _, (J_nat hj (by omega) c10).1⟩) (by show mu_sub z.1 < _; unfold mu_sub; rw [if_neg c10]; omega) ?_
      · skip
        refine Ev.iload_n rfl rfl ?_
        refine Ev.zlt (tgt := 72) rfl (by decide) (fun c19 => ?_) (fun c19 => ?_)
        · skip
          have hF : (F_give_18 n be we z)  z' = .inr z'.1 := by
            unfold F_give_18
            rw [if_pos c19]
          exact (he _ hF).fg (gs rfl (gs rfl (gs rfl (gn gz))))
        · skip
          have hb1 := (J_nat hj' (by omega) c19).2
          have hb3 := (and_nat (w := (z'.2 ^^^ (-1 : Int32))) (J_nat hj (by omega) c10).1 (by omega)).2
          refine Ev.aload_n rfl rfl ?_
          refine Ev.getf rfl rfl hsh rfl ?_
          refine Ev.iload_n rfl rfl ?_
          refine Ev.ialdN (k := (z'.2).toNatClampNeg) rfl h_worth (J_nat hj' (by omega) c19).1 ⟨(by omega), by decide⟩ ?_
          refine Ev.ldc (v := (-1000000000)) rfl rfl ?_
          refine Ev.jeq (tgt := 55) rfl (by decide) (fun c30 => ?_) (fun c30 => ?_)
          · skip
            refine Ev.iload_n rfl rfl ?_
            refine Ev.zne (tgt := 63) rfl (by decide) (fun c56 => ?_) (fun c56 => ?_)
            · skip
              refine Ev.iload_n rfl rfl ?_
              refine Ev.iconst (v := 1) rfl (by decide) ?_
              refine Ev.isub rfl ?_
              refine Ev.iload_n rfl rfl ?_
              refine Ev.iand rfl ?_
              refine Ev.istore_n rfl rfl rfl ?_
              refine Ev.goto (tgt := 18) rfl (by decide) ?_
              have hF : (F_give_18 n be we z)  z' = .inl (z'.1, (z'.2 - (1 : Int32)) &&& z.1) := by
                unfold F_give_18
                rw [if_neg c19]
                rw [if_pos c30]
                rw [if_neg c56]
              exact (hx _ hF).fg (gs rfl (gs rfl (gs rfl (gs rfl gz))))
            · skip
              refine Ev.iconst (v := (-1)) rfl (by decide) ?_
              refine Ev.goto (tgt := 68) rfl (by decide) ?_
              refine Ev.istore_n rfl rfl rfl ?_
              refine Ev.goto (tgt := 18) rfl (by decide) ?_
              have hF : (F_give_18 n be we z)  z' = .inl (z'.1, (-1 : Int32)) := by
                unfold F_give_18
                rw [if_neg c19]
                rw [if_pos c30]
                rw [if_pos c56]
              exact (hx _ hF).fg (gs rfl (gs rfl (gs rfl (gs rfl gz))))
          · skip
            refine Ev.iload_n rfl rfl ?_
            refine Ev.aload_n rfl rfl ?_
            refine Ev.getf rfl rfl hsh rfl ?_
            refine Ev.iload_n rfl rfl ?_
            refine Ev.ialdN (k := (z'.2).toNatClampNeg) rfl h_worth (J_nat hj' (by omega) c19).1 ⟨(by omega), by decide⟩ ?_
            refine Ev.aload_n rfl rfl ?_
            refine Ev.getf rfl rfl hsh rfl ?_
            refine Ev.iload_n rfl rfl ?_
            refine Ev.iload_n rfl rfl ?_
            refine Ev.iconst (v := (-1)) rfl (by decide) ?_
            refine Ev.ixor rfl ?_
            refine Ev.iand rfl ?_
            refine Ev.ialdN (k := (z.1 &&& (z'.2 ^^^ (-1 : Int32))).toNatClampNeg) rfl h_best (and_nat (J_nat hj (by omega) c10).1 (by omega)).1 ⟨(by omega), by decide⟩ ?_
            refine Ev.iadd rfl ?_
            refine Ev.mmax rfl rfl rfl (Nat.le_of_ble_eq_true rfl) ⟨(Nat.le_refl _), (Nat.le_refl _)⟩ ?_
            refine Ev.istore_n rfl rfl rfl ?_
            refine Ev.iload_n rfl rfl ?_
            refine Ev.zne (tgt := 63) rfl (by decide) (fun c56 => ?_) (fun c56 => ?_)
            · skip
              refine Ev.iload_n rfl rfl ?_
              refine Ev.iconst (v := 1) rfl (by decide) ?_
              refine Ev.isub rfl ?_
              refine Ev.iload_n rfl rfl ?_
              refine Ev.iand rfl ?_
              refine Ev.istore_n rfl rfl rfl ?_
              refine Ev.goto (tgt := 18) rfl (by decide) ?_
              have hF : (F_give_18 n be we z)  z' = .inl (if z'.1 < ((we ((z'.2).toNatClampNeg)) + (z.2 ((z.1 &&& (z'.2 ^^^ (-1 : Int32))).toNatClampNeg))) then (we ((z'.2).toNatClampNeg)) + (z.2 ((z.1 &&& (z'.2 ^^^ (-1 : Int32))).toNatClampNeg)) else z'.1, (z'.2 - (1 : Int32)) &&& z.1) := by
                unfold F_give_18
                rw [if_neg c19]
                rw [if_neg c30]
                rw [if_neg c56]
              exact (hx _ hF).fg (gs rfl (gs rfl (gs rfl (gs rfl gz))))
            · skip
              refine Ev.iconst (v := (-1)) rfl (by decide) ?_
              refine Ev.goto (tgt := 68) rfl (by decide) ?_
              refine Ev.istore_n rfl rfl rfl ?_
              refine Ev.goto (tgt := 18) rfl (by decide) ?_
              have hF : (F_give_18 n be we z)  z' = .inl (if z'.1 < ((we ((z'.2).toNatClampNeg)) + (z.2 ((z.1 &&& (z'.2 ^^^ (-1 : Int32))).toNatClampNeg))) then (we ((z'.2).toNatClampNeg)) + (z.2 ((z.1 &&& (z'.2 ^^^ (-1 : Int32))).toNatClampNeg)) else z'.1, (-1 : Int32)) := by
                unfold F_give_18
                rw [if_neg c19]
                rw [if_neg c30]
                rw [if_pos c56]
              exact (hx _ hF).fg (gs rfl (gs rfl (gs rfl (gs rfl gz))))
      · skip
        refine Ev.aload_n rfl rfl ?_
        refine Ev.getf rfl rfl hsh rfl ?_
        refine Ev.iload_n rfl rfl ?_
        refine Ev.iload_n rfl rfl ?_
        refine Ev.iastE (k := (z.1).toNatClampNeg) rfl h_best (J_nat hj (by omega) c10).1 ⟨(by omega), by decide⟩ (fun τ1 f1 h_best => ?_)
        have hsh := frm.cell f1 hsh (by omega)
        have h_who := frm.cell f1 h_who (by omega)
        have h_worth := frm.cell f1 h_worth (by omega)
        have fr := fr.step f1 (by omega) (by omega)
        refine Ev.iinc (d := (-1)) rfl rfl rfl (by decide) rfl ?_
        refine Ev.goto (tgt := 9) rfl (by decide) ?_
        have hF : (F_give_9 n be we)  z = .inl (z.1 + (-1 : Int32), (upd z.2 ((z.1).toNatClampNeg) (fw (F_give_18 n be we z) (0 : Int32) (z.1.toNatClampNeg + 2) ((-1000000000 : Int32), z.1)))) := by
          unfold F_give_9
          rw [if_neg c10]
        exact (hx _ hF τ1 fr hsh h_who h_best h_worth).fg (gs rfl (gs rfl (gn (gn gz))))
  · skip
    intro τ' fr hsh h_who h_best h_worth
    refine Ev.ret rfl rfl (Nat.le_refl _) (Nat.le_refl _) ?_
    have hK : (K_give n be we) = (fw (F_give_9 n be we) be (2 ^ n + 2) (nI ((2 ^ n) - 1), be)) := by rfl
    rw [← hQ]
    dsimp only
    rw [hK]
    exact ⟨rfl, fr, h_best, hsh, h_who, h_worth⟩
theorem begin_who (w : Int32) (wo : Nat → Int32) : ∀ i, i < (K_begin w wo).1 → (K_begin w wo).2 i = nI ((K_begin w wo).2 i).toNatClampNeg ∧ ((K_begin w wo).2 i).toNatClampNeg < 16 := by
  obtain ⟨a, b⟩ := fe_inv (F := F_begin_7 w wo) (fun _ z => z.1 ≤ 8 ∧ ∀ i, i < z.1 → ∃ q, q < 16 ∧ z.2 i = nI q) (fun r => ∀ i, i < r.1 → ∃ q, q < 16 ∧ r.2 i = nI q) 16 0 (0, wo) ⟨by decide, fun i hi => absurd hi (Nat.not_lt_zero _)⟩ (fun j z _ hj hz => by
    obtain ⟨h8, hz⟩ := hz
    have h8 : z.1 ≤ 8 := h8
    unfold F_begin_7
    by_cases c : nI z.1 < (8 : Int32)
    · have hz8 := (nI_ltI (a := z.1) (b := 8) (by omega) (by decide)).mp c
      rw [if_pos c]
      refine ⟨fun z' e => ?_, fun r e => ?_⟩
      · split at e
        · cases e; exact ⟨h8, hz⟩
        · cases e
          refine ⟨by show z.1 + 1 ≤ 8; omega, fun i hi => ?_⟩
          have hi : i < z.1 + 1 := hi
          show ∃ q, q < 16 ∧ upd z.2 z.1 (nI j) i = nI q
          by_cases e : i = z.1
          · subst e; exact ⟨j, by omega, pk_us⟩
          · rw [pk_un e]; exact hz i (by omega)
      · split at e <;> cases e
    · rw [if_neg c]
      exact ⟨fun z' e => by cases e, fun r e => by cases e; exact hz⟩)
  have key : ∀ i, i < (K_begin w wo).1 → ∃ q, q < 16 ∧ (K_begin w wo).2 i = nI q := by
    unfold K_begin
    rcases hf : fe (F_begin_7 w wo) 16 0 (0, wo) with z | r
    · rw [Sum.elim_inl]; exact (a z hf).2
    · rw [Sum.elim_inr]; exact b r hf
  intro i hi
  obtain ⟨q, hq, e⟩ := key i hi
  rw [e, nI_clamp (by omega)]
  exact ⟨rfl, hq⟩
def F_seatAll_10 (S : Sch) (P : Pln) (wo be we : Nat → Int32) : Nat → (Nat → Int32) → (Nat → Int32) := fun k z => (upd z k ((-3 : Int32) * (K_rank ((K_begin (K_all S) wo).1) (nI k))))
def F_seatAll_58 (S : Sch) (P : Pln) (wo be we : Nat → Int32) (k : Nat) (z : (Nat → Int32) × (Nat → Int32)) : Nat → (Nat → Int32) → (Nat → Int32) := fun k' z' => if (K_maySit S (P.2 k) (nI k')) = (0 : Int32) then (upd z' k' (-1000000000 : Int32)) else (upd z' k' (((K_tog S (P.2 k) (nI k')) * (65536 : Int32)) - ((nI k) * (K_rank ((K_begin (K_all S) wo).1) (nI k')))))
def F_seatAll_42 (S : Sch) (P : Pln) (wo be we : Nat → Int32) : Nat → ((Nat → Int32) × (Nat → Int32)) → ((Nat → Int32) × (Nat → Int32)) ⊕ ((Nat → Int32) × (Nat → Int32)) := fun k z => if (nI k) < (3 : Int32) then (.inl (K_give ((K_begin (K_all S) wo).1) z.1 (fo (F_seatAll_58 S P wo be we k z) (2 ^ ((K_begin (K_all S) wo).1)) 0 z.2), (fo (F_seatAll_58 S P wo be we k z) (2 ^ ((K_begin (K_all S) wo).1)) 0 z.2))) else (.inr (z.1, z.2))
def K_seatAll (S : Sch) (P : Pln) (wo be we : Nat → Int32) : Nat × (Nat → Int32) × (Nat → Int32) × (Nat → Int32) := Sum.elim (fun (zx : (Nat → Int32) × (Nat → Int32)) => ((K_begin (K_all S) wo).1, (K_begin (K_all S) wo).2, zx.1, zx.2)) (fun (rx : (Nat → Int32) × (Nat → Int32)) => ((K_begin (K_all S) wo).1, (K_begin (K_all S) wo).2, rx.1, rx.2)) (fe (F_seatAll_42 S P wo be we) (P.1) 0 ((fo (F_seatAll_10 S P wo be we) (2 ^ ((K_begin (K_all S) wo).1)) 0 be), we))
theorem seatAll_ok {n0 : Nat} {wo be we : Nat → Int32} (hsh : σ.2 (q) = some (.inr (.inr (7, [.ref (q + 1), .int (nI n0), .ref (q + 2), .ref (q + 3)])))) (h_who : σ.2 (q + 1) = some (.inl (0, 8, wo))) (h_best : σ.2 (q + 2) = some (.inl (0, 256, be))) (h_worth : σ.2 (q + 3) = some (.inl (0, 256, we))) (hS0 : isS σ a S) (hP0 : isP σ p P) (hwp : wP P) (hn16 : S.1 ≤ 16) (hn5 : S.2.1 ≤ 5) (ht : ∀ k, k < P.1 → okL S (P.2 k)) (ha : a + 11 ≤ q) (hp : p + 8 ≤ q) : RetX Γ m_Sharing_seatAll [(.ref q), (.ref a), (.ref p)] σ q (q + 4) none (fun τ => τ.2 q = some (.inr (.inr (7, [(.ref (q + 1)), (.int (nI ((K_seatAll S P wo be we).1))), (.ref (q + 2)), (.ref (q + 3))]))) ∧ τ.2 (q + 1) = some (.inl (0, 8, (K_seatAll S P wo be we).2.1)) ∧ τ.2 (q + 2) = some (.inl (0, 256, (K_seatAll S P wo be we).2.2.1)) ∧ τ.2 (q + 3) = some (.inl (0, 256, (K_seatAll S P wo be we).2.2.2))) := by
  have h6 := hwp.1
  unfold RetX
  generalize hQ : (fun (r : Option Value) (τ : ex_S) => r = none ∧ frm σ τ q (q + 4) ∧ (fun τ : ex_S => τ.2 q = some (.inr (.inr (7, [(.ref (q + 1)), (.int (nI ((K_seatAll S P wo be we).1))), (.ref (q + 2)), (.ref (q + 3))]))) ∧ τ.2 (q + 1) = some (.inl (0, 8, (K_seatAll S P wo be we).2.1)) ∧ τ.2 (q + 2) = some (.inl (0, 256, (K_seatAll S P wo be we).2.2.1)) ∧ τ.2 (q + 3) = some (.inl (0, 256, (K_seatAll S P wo be we).2.2.2))) τ) = Q
  refine Ret.start pm_139 rfl ?_
  have fr : frm σ σ q (q + 4) := frm.rf
  have hS := hS0.frm fr (by omega)
  obtain ⟨h0, h1, h2, h3, h4, h5, h6', h7, h8, h9, h10⟩ := id hS
  have hP := hP0.frm fr (by omega)
  obtain ⟨p0, ⟨pf, p1, p2⟩, p3⟩ := id hP
  refine Ev.aload_n rfl rfl ?_
  refine Ev.aload_n rfl rfl ?_
  refine Ev.cV0 rfl rfl h0 rfl rfl (by decide) ⟨(Nat.le_refl _), (Nat.le_refl _)⟩ (all_ok hS) ?_
  refine Ev.xV1u rfl rfl hsh rfl rfl (by decide) ⟨(Nat.le_refl _), (Nat.le_refl _)⟩ (begin_ok hsh h_who h_best h_worth _) (fun τ1 f1 q1 => ?_)
  obtain ⟨hsh, h_who, h_best, h_worth⟩ := q1
  have fr := fr.step f1 (by omega) (by omega)
  have hS := hS0.frm fr (by omega)
  obtain ⟨h0, h1, h2, h3, h4, h5, h6', h7, h8, h9, h10⟩ := id hS
  have hP := hP0.frm fr (by omega)
  obtain ⟨p0, ⟨pf, p1, p2⟩, p3⟩ := id hP
  have hsz := begin_le (K_all S) wo
  have hwho := begin_who (K_all S) wo
  obtain ⟨hp1, hp2⟩ := pow8 hsz
  refine Ev.iconst (v := 0) rfl (by decide) ?_
  refine Ev.istore_n rfl rfl rfl ?_
  refine Ev.fg (L := [some (.ref q), some (.ref a), some (.ref p), some (.int (nI 0)), none, none]) ?_ (gs rfl (gs rfl (gs rfl (gs (congrArg Value.int (rfl : (0 : Int32) = nI 0).symm) (gn (gn gz))))))
  refine lp (fun (k : Nat) (z : (Nat → Int32)) => ∀ τ' : ex_S, frm σ τ' q (q + 4) → τ'.2 q = some (.inr (.inr (7, [(.ref (q + 1)), (.int (nI ((K_begin (K_all S) wo).1))), (.ref (q + 2)), (.ref (q + 3))]))) → τ'.2 (q + 1) = some (.inl (0, 8, (K_begin (K_all S) wo).2)) → τ'.2 (q + 2) = some (.inl (0, 256, z)) → τ'.2 (q + 3) = some (.inl (0, 256, we)) → Ev Γ 0 0 m_Sharing_seatAll 0 0 10 [some (.ref q), some (.ref a), some (.ref p), some (.int (nI k)), none, none] [] τ' Q) (F_seatAll_10 S P wo be we) (2 ^ ((K_begin (K_all S) wo).1)) (fun k z hk hx => ?_) (2 ^ ((K_begin (K_all S) wo).1)) 0 be (by omega) ?_ τ1 fr hsh h_who h_best h_worth
  · skip
    intro τ' fr hsh h_who h_best h_worth
    have hS := hS0.frm fr (by omega)
    obtain ⟨h0, h1, h2, h3, h4, h5, h6', h7, h8, h9, h10⟩ := id hS
    have hP := hP0.frm fr (by omega)
    obtain ⟨p0, ⟨pf, p1, p2⟩, p3⟩ := id hP
    refine Ev.iload_n rfl rfl ?_
    refine Ev.iconst (v := 1) rfl (by decide) ?_
    refine Ev.aload_n rfl rfl ?_
    refine Ev.getf rfl rfl hsh rfl ?_
    refine Ev.ishl rfl ?_
    refine Ev.jge (tgt := 40) rfl (by decide) (fun c17 => absurd (ltN hk (nq_shl rfl (by omega)) (by omega)) c17) (fun c17 => ?_)
    refine Ev.aload_n rfl rfl ?_
    refine Ev.getf rfl rfl hsh rfl ?_
    refine Ev.iload_n rfl rfl ?_
    refine Ev.bipush (v := (-3)) rfl (by decide) ?_
    refine Ev.aload_n rfl rfl ?_
    refine Ev.iload_n rfl rfl ?_
    refine Ev.cV1 rfl rfl hsh rfl rfl (by decide) ⟨(Nat.le_refl _), (Nat.le_refl _)⟩ (rank_ok hsh h_who h_best h_worth (by omega) _) ?_
    refine Ev.imul rfl ?_
    refine Ev.iastE (k := k) rfl h_best rfl ⟨(by omega), by decide⟩ (fun τ2 f1 h_best => ?_)
    have hsh := frm.cell f1 hsh (by omega)
    have h_who := frm.cell f1 h_who (by omega)
    have h_worth := frm.cell f1 h_worth (by omega)
    have fr := fr.step f1 (by omega) (by omega)
    have hS := hS0.frm fr (by omega)
    obtain ⟨h0, h1, h2, h3, h4, h5, h6', h7, h8, h9, h10⟩ := id hS
    have hP := hP0.frm fr (by omega)
    obtain ⟨p0, ⟨pf, p1, p2⟩, p3⟩ := id hP
    refine Ev.iinc (d := 1) rfl rfl rfl (by decide) rfl ?_
    refine Ev.goto (tgt := 10) rfl (by decide) ?_
    have hF : (F_seatAll_10 S P wo be we) k z = (upd z k ((-3 : Int32) * (K_rank ((K_begin (K_all S) wo).1) (nI k)))) := by rfl
    rw [hF] at hx
    exact (hx τ2 fr hsh h_who h_best h_worth).fg (gs rfl (gs rfl (gs rfl (gs (congrArg Value.int (show nI (k + 1) = (nI k) + (1 : Int32) from (nq_to (a := k + 1) (nq_add (a := k) (b := 1) rfl (rfl : (1 : Int32) = nI 1)) (by omega)).symm)) (gn (gn gz))))))
  · skip
    intro τ' fr hsh h_who h_best h_worth
    have hS := hS0.frm fr (by omega)
    obtain ⟨h0, h1, h2, h3, h4, h5, h6', h7, h8, h9, h10⟩ := id hS
    have hP := hP0.frm fr (by omega)
    obtain ⟨p0, ⟨pf, p1, p2⟩, p3⟩ := id hP
    refine Ev.iload_n rfl rfl ?_
    refine Ev.iconst (v := 1) rfl (by decide) ?_
    refine Ev.aload_n rfl rfl ?_
    refine Ev.getf rfl rfl hsh rfl ?_
    refine Ev.ishl rfl ?_
    refine Ev.jge (tgt := 40) rfl (by decide) (fun c17 => ?_) (fun c17 => absurd c17 (nltN (nq_shl rfl (by omega)) (by omega)))
    refine Ev.iconst (v := 0) rfl (by decide) ?_
    refine Ev.istore_n rfl rfl rfl ?_
    refine Ev.fg (L := [some (.ref q), some (.ref a), some (.ref p), some (.int (nI 0)), none, none]) ?_ (gs rfl (gs rfl (gs rfl (gs (congrArg Value.int (rfl : (0 : Int32) = nI 0).symm) (gn (gn gz))))))
    refine lpe (fun (k : Nat) (z : (Nat → Int32) × (Nat → Int32)) => ∀ τ' : ex_S, frm σ τ' q (q + 4) → τ'.2 q = some (.inr (.inr (7, [(.ref (q + 1)), (.int (nI ((K_begin (K_all S) wo).1))), (.ref (q + 2)), (.ref (q + 3))]))) → τ'.2 (q + 1) = some (.inl (0, 8, (K_begin (K_all S) wo).2)) → τ'.2 (q + 2) = some (.inl (0, 256, z.1)) → τ'.2 (q + 3) = some (.inl (0, 256, z.2)) → Ev Γ 0 0 m_Sharing_seatAll 0 0 42 [some (.ref q), some (.ref a), some (.ref p), some (.int (nI k)), none, none] [] τ' Q) (fun (r : (Nat → Int32) × (Nat → Int32)) => ∀ τ' : ex_S, frm σ τ' q (q + 4) → τ'.2 q = some (.inr (.inr (7, [(.ref (q + 1)), (.int (nI ((K_begin (K_all S) wo).1))), (.ref (q + 2)), (.ref (q + 3))]))) → τ'.2 (q + 1) = some (.inl (0, 8, (K_begin (K_all S) wo).2)) → τ'.2 (q + 2) = some (.inl (0, 256, r.1)) → τ'.2 (q + 3) = some (.inl (0, 256, r.2)) → Ev Γ 0 0 m_Sharing_seatAll 0 0 140 [none, none, none, none, none, none] [] τ' Q) (F_seatAll_42 S P wo be we) (P.1) (fun k z hk hx he => ?_) (P.1) 0 ((fo (F_seatAll_10 S P wo be we) (2 ^ ((K_begin (K_all S) wo).1)) 0 be), we) (by omega) (fun zx hzx => ?_) (fun rx hrx => ?_) τ' fr hsh h_who h_best h_worth
    · skip
      intro τ' fr hsh h_who h_best h_worth
      have hS := hS0.frm fr (by omega)
      obtain ⟨h0, h1, h2, h3, h4, h5, h6', h7, h8, h9, h10⟩ := id hS
      have hP := hP0.frm fr (by omega)
      obtain ⟨p0, ⟨pf, p1, p2⟩, p3⟩ := id hP
      refine Ev.iload_n rfl rfl ?_
      refine Ev.aload_n rfl rfl ?_
      refine Ev.getf rfl rfl p0 rfl ?_
      refine Ev.jge (tgt := 140) rfl (by decide) (fun c47 => absurd (nI_lt hk (by omega)) c47) (fun c47 => ?_)
      refine Ev.iload_n rfl rfl ?_
      refine Ev.iconst (v := 3) rfl (by decide) ?_
      refine Ev.jge (tgt := 140) rfl (by decide) (fun c52 => ?_) (fun c52 => ?_)
      · skip
        have hF : (F_seatAll_42 S P wo be we) k z = .inr (z.1, z.2) := by
          unfold F_seatAll_42
          rw [if_neg c52]
        exact (he _ hF τ' fr hsh h_who h_best h_worth).fg (gn (gn (gn (gn (gn (gn gz))))))
      · skip
        refine Ev.iconst (v := 0) rfl (by decide) ?_
        refine Ev.istore rfl rfl rfl ?_
        refine Ev.fg (L := [some (.ref q), some (.ref a), some (.ref p), some (.int (nI k)), some (.int (nI 0)), none]) ?_ (gs rfl (gs rfl (gs rfl (gs rfl (gs (congrArg Value.int (rfl : (0 : Int32) = nI 0).symm) (gn gz))))))
        refine lp (fun (k' : Nat) (z' : (Nat → Int32)) => ∀ τ'' : ex_S, frm σ τ'' q (q + 4) → τ''.2 q = some (.inr (.inr (7, [(.ref (q + 1)), (.int (nI ((K_begin (K_all S) wo).1))), (.ref (q + 2)), (.ref (q + 3))]))) → τ''.2 (q + 1) = some (.inl (0, 8, (K_begin (K_all S) wo).2)) → τ''.2 (q + 2) = some (.inl (0, 256, z.1)) → τ''.2 (q + 3) = some (.inl (0, 256, z')) → Ev Γ 0 0 m_Sharing_seatAll 0 0 58 [some (.ref q), some (.ref a), some (.ref p), some (.int (nI k)), some (.int (nI k')), none] [] τ'' Q) (F_seatAll_58 S P wo be we k z) (2 ^ ((K_begin (K_all S) wo).1)) (fun k' z' hk' hx' => ?_) (2 ^ ((K_begin (K_all S) wo).1)) 0 z.2 (by omega) ?_ τ' fr hsh h_who h_best h_worth
        · skip
          intro τ'' fr hsh h_who h_best h_worth
          have hS := hS0.frm fr (by omega)
          obtain ⟨h0, h1, h2, h3, h4, h5, h6', h7, h8, h9, h10⟩ := id hS
          have hP := hP0.frm fr (by omega)
          obtain ⟨p0, ⟨pf, p1, p2⟩, p3⟩ := id hP
          refine Ev.iload rfl rfl ?_
          refine Ev.iconst (v := 1) rfl (by decide) ?_
          refine Ev.aload_n rfl rfl ?_
          refine Ev.getf rfl rfl hsh rfl ?_
          refine Ev.ishl rfl ?_
          refine Ev.jge (tgt := 130) rfl (by decide) (fun c66 => absurd (ltN hk' (nq_shl rfl (by omega)) (by omega)) c66) (fun c66 => ?_)
          refine Ev.aload_n rfl rfl ?_
          refine Ev.aload_n rfl rfl ?_
          refine Ev.getf rfl rfl p0 rfl ?_
          refine Ev.iload_n rfl rfl ?_
          refine Ev.aaldN (k := k) rfl p1 rfl rfl ⟨(by omega), by decide⟩ (p2 k (by omega)) ?_
          refine Ev.iload rfl rfl ?_
          refine Ev.cS3 rfl rfl rfl (by decide) ⟨(Nat.le_refl _), (Nat.le_refl _)⟩ (maySit_ok hS (p3 k (by omega)) hn16 _) ?_
          refine Ev.istore rfl rfl rfl ?_
          refine Ev.aload_n rfl rfl ?_
          refine Ev.getf rfl rfl hsh rfl ?_
          refine Ev.iload rfl rfl ?_
          refine Ev.iload rfl rfl ?_
          refine Ev.zeq (tgt := 121) rfl (by decide) (fun c91 => ?_) (fun c91 => ?_)
          · skip
            refine Ev.ldc (v := (-1000000000)) rfl rfl ?_
            refine Ev.iastE (k := k') rfl h_worth rfl ⟨(by omega), by decide⟩ (fun τ3 f1 h_worth => ?_)
            have hsh := frm.cell f1 hsh (by omega)
            have h_who := frm.cell f1 h_who (by omega)
            have h_best := frm.cell f1 h_best (by omega)
            have fr := fr.step f1 (by omega) (by omega)
            have hS := hS0.frm fr (by omega)
            obtain ⟨h0, h1, h2, h3, h4, h5, h6', h7, h8, h9, h10⟩ := id hS
            have hP := hP0.frm fr (by omega)
            obtain ⟨p0, ⟨pf, p1, p2⟩, p3⟩ := id hP
            refine Ev.iinc (d := 1) rfl rfl rfl (by decide) rfl ?_
            refine Ev.goto (tgt := 58) rfl (by decide) ?_
            have hF : (F_seatAll_58 S P wo be we k z) k' z' = (upd z' k' (-1000000000 : Int32)) := by
              unfold F_seatAll_58
              rw [if_pos c91]
            rw [hF] at hx'
            exact (hx' τ3 fr hsh h_who h_best h_worth).fg (gs rfl (gs rfl (gs rfl (gs rfl (gs (congrArg Value.int (show nI (k' + 1) = (nI k') + (1 : Int32) from (nq_to (a := k' + 1) (nq_add (a := k') (b := 1) rfl (rfl : (1 : Int32) = nI 1)) (by omega)).symm)) (gn gz))))))
          · skip
            refine Ev.aload_n rfl rfl ?_
            refine Ev.aload_n rfl rfl ?_
            refine Ev.getf rfl rfl p0 rfl ?_
            refine Ev.iload_n rfl rfl ?_
            refine Ev.aaldN (k := k) rfl p1 rfl rfl ⟨(by omega), by decide⟩ (p2 k (by omega)) ?_
            refine Ev.iload rfl rfl ?_
            refine Ev.cV2 rfl rfl h0 rfl rfl (by decide) ⟨(Nat.le_refl _), (Nat.le_refl _)⟩ (tog_ok hS (p3 k (by omega)) _ (ht k (by omega)) hn5) ?_
            refine Ev.ldc (v := (65536)) rfl rfl ?_
            refine Ev.imul rfl ?_
            refine Ev.iload_n rfl rfl ?_
            refine Ev.aload_n rfl rfl ?_
            refine Ev.iload rfl rfl ?_
            refine Ev.cV1 rfl rfl hsh rfl rfl (by decide) ⟨(Nat.le_refl _), (Nat.le_refl _)⟩ (rank_ok hsh h_who h_best h_worth (by omega) _) ?_
            refine Ev.imul rfl ?_
            refine Ev.isub rfl ?_
            refine Ev.goto (tgt := 123) rfl (by decide) ?_
            refine Ev.iastE (k := k') rfl h_worth rfl ⟨(by omega), by decide⟩ (fun τ4 f1 h_worth => ?_)
            have hsh := frm.cell f1 hsh (by omega)
            have h_who := frm.cell f1 h_who (by omega)
            have h_best := frm.cell f1 h_best (by omega)
            have fr := fr.step f1 (by omega) (by omega)
            have hS := hS0.frm fr (by omega)
            obtain ⟨h0, h1, h2, h3, h4, h5, h6', h7, h8, h9, h10⟩ := id hS
            have hP := hP0.frm fr (by omega)
            obtain ⟨p0, ⟨pf, p1, p2⟩, p3⟩ := id hP
            refine Ev.iinc (d := 1) rfl rfl rfl (by decide) rfl ?_
            refine Ev.goto (tgt := 58) rfl (by decide) ?_
            have hF : (F_seatAll_58 S P wo be we k z) k' z' = (upd z' k' (((K_tog S (P.2 k) (nI k')) * (65536 : Int32)) - ((nI k) * (K_rank ((K_begin (K_all S) wo).1) (nI k'))))) := by
              unfold F_seatAll_58
              rw [if_neg c91]
            rw [hF] at hx'
            exact (hx' τ4 fr hsh h_who h_best h_worth).fg (gs rfl (gs rfl (gs rfl (gs rfl (gs (congrArg Value.int (show nI (k' + 1) = (nI k') + (1 : Int32) from (nq_to (a := k' + 1) (nq_add (a := k') (b := 1) rfl (rfl : (1 : Int32) = nI 1)) (by omega)).symm)) (gn gz))))))
        · skip
          intro τ'' fr hsh h_who h_best h_worth
          have hS := hS0.frm fr (by omega)
          obtain ⟨h0, h1, h2, h3, h4, h5, h6', h7, h8, h9, h10⟩ := id hS
          have hP := hP0.frm fr (by omega)
          obtain ⟨p0, ⟨pf, p1, p2⟩, p3⟩ := id hP
          refine Ev.iload rfl rfl ?_
          refine Ev.iconst (v := 1) rfl (by decide) ?_
          refine Ev.aload_n rfl rfl ?_
          refine Ev.getf rfl rfl hsh rfl ?_
          refine Ev.ishl rfl ?_
          refine Ev.jge (tgt := 130) rfl (by decide) (fun c66 => ?_) (fun c66 => absurd c66 (nltN (nq_shl rfl (by omega)) (by omega)))
          refine Ev.aload_n rfl rfl ?_
          refine Ev.xV0u rfl rfl hsh rfl rfl (by decide) ⟨(Nat.le_refl _), (Nat.le_refl _)⟩ (give_ok hsh h_who h_best h_worth (by omega)) (fun τ5 f1 q1 => ?_)
          obtain ⟨h_best, hsh, h_who, h_worth⟩ := q1
          have fr := fr.step f1 (by omega) (by omega)
          have hS := hS0.frm fr (by omega)
          obtain ⟨h0, h1, h2, h3, h4, h5, h6', h7, h8, h9, h10⟩ := id hS
          have hP := hP0.frm fr (by omega)
          obtain ⟨p0, ⟨pf, p1, p2⟩, p3⟩ := id hP
          refine Ev.iinc (d := 1) rfl rfl rfl (by decide) rfl ?_
          refine Ev.goto (tgt := 42) rfl (by decide) ?_
          have hF : (F_seatAll_42 S P wo be we) k z = .inl (K_give ((K_begin (K_all S) wo).1) z.1 (fo (F_seatAll_58 S P wo be we k z) (2 ^ ((K_begin (K_all S) wo).1)) 0 z.2), (fo (F_seatAll_58 S P wo be we k z) (2 ^ ((K_begin (K_all S) wo).1)) 0 z.2)) := by
            unfold F_seatAll_42
            rw [if_pos c52]
          exact (hx _ hF τ5 fr hsh h_who h_best h_worth).fg (gs rfl (gs rfl (gs rfl (gs (congrArg Value.int (show nI (k + 1) = (nI k) + (1 : Int32) from (nq_to (a := k + 1) (nq_add (a := k) (b := 1) rfl (rfl : (1 : Int32) = nI 1)) (by omega)).symm)) (gn (gn gz))))))
    · skip
      intro τ' fr hsh h_who h_best h_worth
      have hS := hS0.frm fr (by omega)
      obtain ⟨h0, h1, h2, h3, h4, h5, h6', h7, h8, h9, h10⟩ := id hS
      have hP := hP0.frm fr (by omega)
      obtain ⟨p0, ⟨pf, p1, p2⟩, p3⟩ := id hP
      refine Ev.iload_n rfl rfl ?_
      refine Ev.aload_n rfl rfl ?_
      refine Ev.getf rfl rfl p0 rfl ?_
      refine Ev.jge (tgt := 140) rfl (by decide) (fun c47 => ?_) (fun c47 => absurd c47 (nI_nlt (Nat.le_refl _) (by omega)))
      refine Ev.ret rfl rfl (Nat.le_refl _) (Nat.le_refl _) ?_
      have hK : (K_seatAll S P wo be we) = ((K_begin (K_all S) wo).1, (K_begin (K_all S) wo).2, zx.1, zx.2) := by
        unfold K_seatAll
        rw [hzx, Sum.elim_inl]
      rw [← hQ]
      dsimp only
      rw [hK]
      exact ⟨rfl, fr, hsh, h_who, h_best, h_worth⟩
    · skip
      intro τ' fr hsh h_who h_best h_worth
      have hS := hS0.frm fr (by omega)
      obtain ⟨h0, h1, h2, h3, h4, h5, h6', h7, h8, h9, h10⟩ := id hS
      have hP := hP0.frm fr (by omega)
      obtain ⟨p0, ⟨pf, p1, p2⟩, p3⟩ := id hP
      refine Ev.ret rfl rfl (Nat.le_refl _) (Nat.le_refl _) ?_
      have hK : (K_seatAll S P wo be we) = ((K_begin (K_all S) wo).1, (K_begin (K_all S) wo).2, rx.1, rx.2) := by
        unfold K_seatAll
        rw [hrx, Sum.elim_inr]
      rw [← hQ]
      dsimp only
      rw [hK]
      exact ⟨rfl, fr, hsh, h_who, h_best, h_worth⟩
def F_without_9 (S : Sch) (P : Pln) (tc w : Int32) (wo be we : Nat → Int32) : Nat → (Nat → Int32) → (Nat → Int32) := fun k z => (upd z k (0 : Int32))
def F_without_67 (S : Sch) (P : Pln) (tc w : Int32) (wo be we : Nat → Int32) (k : Nat) (z : (Nat → Int32) × (Nat → Int32)) : Nat → (Nat → Int32) → (Nat → Int32) := fun k' z' => if (K_mayCome ((K_begin w wo).1) ((K_begin w wo).2) S (P.2 k) (nI k')) = (0 : Int32) then (upd z' k' (-1000000000 : Int32)) else (upd z' k' (K_tog S (P.2 k) (((P.2 k) 5) ||| (K_lOf ((K_begin w wo).1) ((K_begin w wo).2) (nI k')))))
def F_without_37 (S : Sch) (P : Pln) (tc w : Int32) (wo be we : Nat → Int32) : Nat → ((Nat → Int32) × (Nat → Int32)) → ((Nat → Int32) × (Nat → Int32)) := fun k z => if ((P.2 k) 1) = tc then (z.1, z.2) else (K_give ((K_begin w wo).1) z.1 (fo (F_without_67 S P tc w wo be we k z) (2 ^ ((K_begin w wo).1)) 0 z.2), (fo (F_without_67 S P tc w wo be we k z) (2 ^ ((K_begin w wo).1)) 0 z.2))
def K_without (S : Sch) (P : Pln) (tc w : Int32) (wo be we : Nat → Int32) : Int32 × Nat × (Nat → Int32) × (Nat → Int32) × (Nat → Int32) := (((fo (F_without_37 S P tc w wo be we) (P.1) 0 ((fo (F_without_9 S P tc w wo be we) (2 ^ ((K_begin w wo).1)) 0 be), we)).1) ((2 ^ ((K_begin w wo).1)) - 1), (K_begin w wo).1, (K_begin w wo).2, (fo (F_without_37 S P tc w wo be we) (P.1) 0 ((fo (F_without_9 S P tc w wo be we) (2 ^ ((K_begin w wo).1)) 0 be), we)).1, (fo (F_without_37 S P tc w wo be we) (P.1) 0 ((fo (F_without_9 S P tc w wo be we) (2 ^ ((K_begin w wo).1)) 0 be), we)).2)
theorem without_ok {n0 : Nat} {wo be we : Nat → Int32} (hsh : σ.2 (q) = some (.inr (.inr (7, [.ref (q + 1), .int (nI n0), .ref (q + 2), .ref (q + 3)])))) (h_who : σ.2 (q + 1) = some (.inl (0, 8, wo))) (h_best : σ.2 (q + 2) = some (.inl (0, 256, be))) (h_worth : σ.2 (q + 3) = some (.inl (0, 256, we))) (hS0 : isS σ a S) (hP0 : isP σ p P) (hwp : wP P) (hn16 : S.1 ≤ 16) (hn5 : S.2.1 ≤ 5) (ht : ∀ k, k < P.1 → okL S (P.2 k)) (ha : a + 11 ≤ q) (hp : p + 8 ≤ q) (tc w : Int32) : RetX Γ m_Sharing_withoutTeacher [(.ref q), (.ref a), (.ref p), (.int tc), (.int w)] σ q (q + 4) (some (.int ((K_without S P tc w wo be we).1))) (fun τ => τ.2 q = some (.inr (.inr (7, [(.ref (q + 1)), (.int (nI ((K_without S P tc w wo be we).2.1))), (.ref (q + 2)), (.ref (q + 3))]))) ∧ τ.2 (q + 1) = some (.inl (0, 8, (K_without S P tc w wo be we).2.2.1)) ∧ τ.2 (q + 2) = some (.inl (0, 256, (K_without S P tc w wo be we).2.2.2.1)) ∧ τ.2 (q + 3) = some (.inl (0, 256, (K_without S P tc w wo be we).2.2.2.2))) := by
  have h6 := hwp.1
  unfold RetX
  generalize hQ : (fun (r : Option Value) (τ : ex_S) => r = some (.int ((K_without S P tc w wo be we).1)) ∧ frm σ τ q (q + 4) ∧ (fun τ : ex_S => τ.2 q = some (.inr (.inr (7, [(.ref (q + 1)), (.int (nI ((K_without S P tc w wo be we).2.1))), (.ref (q + 2)), (.ref (q + 3))]))) ∧ τ.2 (q + 1) = some (.inl (0, 8, (K_without S P tc w wo be we).2.2.1)) ∧ τ.2 (q + 2) = some (.inl (0, 256, (K_without S P tc w wo be we).2.2.2.1)) ∧ τ.2 (q + 3) = some (.inl (0, 256, (K_without S P tc w wo be we).2.2.2.2))) τ) = Q
  refine Ret.start pm_142 rfl ?_
  have fr : frm σ σ q (q + 4) := frm.rf
  have hS := hS0.frm fr (by omega)
  obtain ⟨h0, h1, h2, h3, h4, h5, h6', h7, h8, h9, h10⟩ := id hS
  have hP := hP0.frm fr (by omega)
  obtain ⟨p0, ⟨pf, p1, p2⟩, p3⟩ := id hP
  refine Ev.aload_n rfl rfl ?_
  refine Ev.iload rfl rfl ?_
  refine Ev.xV1u rfl rfl hsh rfl rfl (by decide) ⟨(Nat.le_refl _), (Nat.le_refl _)⟩ (begin_ok hsh h_who h_best h_worth _) (fun τ1 f1 q1 => ?_)
  obtain ⟨hsh, h_who, h_best, h_worth⟩ := q1
  have fr := fr.step f1 (by omega) (by omega)
  have hS := hS0.frm fr (by omega)
  obtain ⟨h0, h1, h2, h3, h4, h5, h6', h7, h8, h9, h10⟩ := id hS
  have hP := hP0.frm fr (by omega)
  obtain ⟨p0, ⟨pf, p1, p2⟩, p3⟩ := id hP
  have hsz := begin_le w wo
  have hwho := begin_who w wo
  obtain ⟨hp1, hp2⟩ := pow8 hsz
  refine Ev.iconst (v := 0) rfl (by decide) ?_
  refine Ev.istore rfl rfl rfl ?_
  refine Ev.fg (L := [some (.ref q), some (.ref a), some (.ref p), some (.int tc), none, some (.int (nI 0)), none, none]) ?_ (gs rfl (gs rfl (gs rfl (gs rfl (gn (gs (congrArg Value.int (rfl : (0 : Int32) = nI 0).symm) (gn (gn gz))))))))
  refine lp (fun (k : Nat) (z : (Nat → Int32)) => ∀ τ' : ex_S, frm σ τ' q (q + 4) → τ'.2 q = some (.inr (.inr (7, [(.ref (q + 1)), (.int (nI ((K_begin w wo).1))), (.ref (q + 2)), (.ref (q + 3))]))) → τ'.2 (q + 1) = some (.inl (0, 8, (K_begin w wo).2)) → τ'.2 (q + 2) = some (.inl (0, 256, z)) → τ'.2 (q + 3) = some (.inl (0, 256, we)) → Ev Γ 0 0 m_Sharing_withoutTeacher 0 0 9 [some (.ref q), some (.ref a), some (.ref p), some (.int tc), none, some (.int (nI k)), none, none] [] τ' Q) (F_without_9 S P tc w wo be we) (2 ^ ((K_begin w wo).1)) (fun k z hk hx => ?_) (2 ^ ((K_begin w wo).1)) 0 be (by omega) ?_ τ1 fr hsh h_who h_best h_worth
  · skip
    intro τ' fr hsh h_who h_best h_worth
    have hS := hS0.frm fr (by omega)
    obtain ⟨h0, h1, h2, h3, h4, h5, h6', h7, h8, h9, h10⟩ := id hS
    have hP := hP0.frm fr (by omega)
    obtain ⟨p0, ⟨pf, p1, p2⟩, p3⟩ := id hP
    refine Ev.iload rfl rfl ?_
    refine Ev.iconst (v := 1) rfl (by decide) ?_
    refine Ev.aload_n rfl rfl ?_
    refine Ev.getf rfl rfl hsh rfl ?_
    refine Ev.ishl rfl ?_
    refine Ev.jge (tgt := 34) rfl (by decide) (fun c17 => absurd (ltN hk (nq_shl rfl (by omega)) (by omega)) c17) (fun c17 => ?_)
    refine Ev.aload_n rfl rfl ?_
    refine Ev.getf rfl rfl hsh rfl ?_
    refine Ev.iload rfl rfl ?_
    refine Ev.iconst (v := 0) rfl (by decide) ?_
    refine Ev.iastE (k := k) rfl h_best rfl ⟨(by omega), by decide⟩ (fun τ2 f1 h_best => ?_)
    have hsh := frm.cell f1 hsh (by omega)
    have h_who := frm.cell f1 h_who (by omega)
    have h_worth := frm.cell f1 h_worth (by omega)
    have fr := fr.step f1 (by omega) (by omega)
    have hS := hS0.frm fr (by omega)
    obtain ⟨h0, h1, h2, h3, h4, h5, h6', h7, h8, h9, h10⟩ := id hS
    have hP := hP0.frm fr (by omega)
    obtain ⟨p0, ⟨pf, p1, p2⟩, p3⟩ := id hP
    refine Ev.iinc (d := 1) rfl rfl rfl (by decide) rfl ?_
    refine Ev.goto (tgt := 9) rfl (by decide) ?_
    have hF : (F_without_9 S P tc w wo be we) k z = (upd z k (0 : Int32)) := by rfl
    rw [hF] at hx
    exact (hx τ2 fr hsh h_who h_best h_worth).fg (gs rfl (gs rfl (gs rfl (gs rfl (gn (gs (congrArg Value.int (show nI (k + 1) = (nI k) + (1 : Int32) from (nq_to (a := k + 1) (nq_add (a := k) (b := 1) rfl (rfl : (1 : Int32) = nI 1)) (by omega)).symm)) (gn (gn gz))))))))
  · skip
    intro τ' fr hsh h_who h_best h_worth
    have hS := hS0.frm fr (by omega)
    obtain ⟨h0, h1, h2, h3, h4, h5, h6', h7, h8, h9, h10⟩ := id hS
    have hP := hP0.frm fr (by omega)
    obtain ⟨p0, ⟨pf, p1, p2⟩, p3⟩ := id hP
    refine Ev.iload rfl rfl ?_
    refine Ev.iconst (v := 1) rfl (by decide) ?_
    refine Ev.aload_n rfl rfl ?_
    refine Ev.getf rfl rfl hsh rfl ?_
    refine Ev.ishl rfl ?_
    refine Ev.jge (tgt := 34) rfl (by decide) (fun c17 => ?_) (fun c17 => absurd c17 (nltN (nq_shl rfl (by omega)) (by omega)))
    refine Ev.iconst (v := 0) rfl (by decide) ?_
    refine Ev.istore rfl rfl rfl ?_
    refine Ev.fg (L := [some (.ref q), some (.ref a), some (.ref p), some (.int tc), none, some (.int (nI 0)), none, none]) ?_ (gs rfl (gs rfl (gs rfl (gs rfl (gn (gs (congrArg Value.int (rfl : (0 : Int32) = nI 0).symm) (gn (gn gz))))))))
    refine lp (fun (k : Nat) (z : (Nat → Int32) × (Nat → Int32)) => ∀ τ' : ex_S, frm σ τ' q (q + 4) → τ'.2 q = some (.inr (.inr (7, [(.ref (q + 1)), (.int (nI ((K_begin w wo).1))), (.ref (q + 2)), (.ref (q + 3))]))) → τ'.2 (q + 1) = some (.inl (0, 8, (K_begin w wo).2)) → τ'.2 (q + 2) = some (.inl (0, 256, z.1)) → τ'.2 (q + 3) = some (.inl (0, 256, z.2)) → Ev Γ 0 0 m_Sharing_withoutTeacher 0 0 37 [some (.ref q), some (.ref a), some (.ref p), some (.int tc), none, some (.int (nI k)), none, none] [] τ' Q) (F_without_37 S P tc w wo be we) (P.1) (fun k z hk hx => ?_) (P.1) 0 ((fo (F_without_9 S P tc w wo be we) (2 ^ ((K_begin w wo).1)) 0 be), we) (by omega) ?_ τ' fr hsh h_who h_best h_worth
    · skip
      intro τ' fr hsh h_who h_best h_worth
      have hS := hS0.frm fr (by omega)
      obtain ⟨h0, h1, h2, h3, h4, h5, h6', h7, h8, h9, h10⟩ := id hS
      have hP := hP0.frm fr (by omega)
      obtain ⟨p0, ⟨pf, p1, p2⟩, p3⟩ := id hP
      refine Ev.iload rfl rfl ?_
      refine Ev.aload_n rfl rfl ?_
      refine Ev.getf rfl rfl p0 rfl ?_
      refine Ev.jge (tgt := 136) rfl (by decide) (fun c43 => absurd (nI_lt hk (by omega)) c43) (fun c43 => ?_)
      refine Ev.aload_n rfl rfl ?_
      refine Ev.getf rfl rfl p0 rfl ?_
      refine Ev.iload rfl rfl ?_
      refine Ev.aaldN (k := k) rfl p1 rfl rfl ⟨(by omega), by decide⟩ (p2 k (by omega)) ?_
      refine Ev.astore rfl rfl rfl ?_
      refine Ev.aload rfl rfl ?_
      refine Ev.getf rfl rfl (p3 k (by omega)) rfl ?_
      refine Ev.iload_n rfl rfl ?_
      refine Ev.jeq (tgt := 130) rfl (by decide) (fun c61 => ?_) (fun c61 => ?_)
      · skip
        refine Ev.iinc (d := 1) rfl rfl rfl (by decide) rfl ?_
        refine Ev.goto (tgt := 37) rfl (by decide) ?_
        have hF : (F_without_37 S P tc w wo be we) k z = (z.1, z.2) := by
          unfold F_without_37
          rw [if_pos c61]
        rw [hF] at hx
        exact (hx τ' fr hsh h_who h_best h_worth).fg (gs rfl (gs rfl (gs rfl (gs rfl (gn (gs (congrArg Value.int (show nI (k + 1) = (nI k) + (1 : Int32) from (nq_to (a := k + 1) (nq_add (a := k) (b := 1) rfl (rfl : (1 : Int32) = nI 1)) (by omega)).symm)) (gn (gn gz))))))))
      · skip
        refine Ev.iconst (v := 0) rfl (by decide) ?_
        refine Ev.istore rfl rfl rfl ?_
        refine Ev.fg (L := [some (.ref q), some (.ref a), some (.ref p), some (.int tc), none, some (.int (nI k)), some (.ref (p + 2 + k)), some (.int (nI 0))]) ?_ (gs rfl (gs rfl (gs rfl (gs rfl (gn (gs rfl (gs rfl (gs (congrArg Value.int (rfl : (0 : Int32) = nI 0).symm) gz))))))))
        refine lp (fun (k' : Nat) (z' : (Nat → Int32)) => ∀ τ'' : ex_S, frm σ τ'' q (q + 4) → τ''.2 q = some (.inr (.inr (7, [(.ref (q + 1)), (.int (nI ((K_begin w wo).1))), (.ref (q + 2)), (.ref (q + 3))]))) → τ''.2 (q + 1) = some (.inl (0, 8, (K_begin w wo).2)) → τ''.2 (q + 2) = some (.inl (0, 256, z.1)) → τ''.2 (q + 3) = some (.inl (0, 256, z')) → Ev Γ 0 0 m_Sharing_withoutTeacher 0 0 67 [some (.ref q), some (.ref a), some (.ref p), some (.int tc), none, some (.int (nI k)), some (.ref (p + 2 + k)), some (.int (nI k'))] [] τ'' Q) (F_without_67 S P tc w wo be we k z) (2 ^ ((K_begin w wo).1)) (fun k' z' hk' hx' => ?_) (2 ^ ((K_begin w wo).1)) 0 z.2 (by omega) ?_ τ' fr hsh h_who h_best h_worth
        · skip
          intro τ'' fr hsh h_who h_best h_worth
          have hS := hS0.frm fr (by omega)
          obtain ⟨h0, h1, h2, h3, h4, h5, h6', h7, h8, h9, h10⟩ := id hS
          have hP := hP0.frm fr (by omega)
          obtain ⟨p0, ⟨pf, p1, p2⟩, p3⟩ := id hP
          refine Ev.iload rfl rfl ?_
          refine Ev.iconst (v := 1) rfl (by decide) ?_
          refine Ev.aload_n rfl rfl ?_
          refine Ev.getf rfl rfl hsh rfl ?_
          refine Ev.ishl rfl ?_
          refine Ev.jge (tgt := 126) rfl (by decide) (fun c75 => absurd (ltN hk' (nq_shl rfl (by omega)) (by omega)) c75) (fun c75 => ?_)
          refine Ev.aload_n rfl rfl ?_
          refine Ev.getf rfl rfl hsh rfl ?_
          refine Ev.iload rfl rfl ?_
          refine Ev.aload_n rfl rfl ?_
          refine Ev.aload_n rfl rfl ?_
          refine Ev.aload rfl rfl ?_
          refine Ev.iload rfl rfl ?_
          refine Ev.cV3 rfl rfl hsh rfl rfl (by decide) ⟨(Nat.le_refl _), (Nat.le_refl _)⟩ (mayCome_ok hsh h_who h_best h_worth hS (p3 k (by omega)) (by omega) hwho _) ?_
          refine Ev.zeq (tgt := 117) rfl (by decide) (fun c93 => ?_) (fun c93 => ?_)
          · skip
            refine Ev.ldc (v := (-1000000000)) rfl rfl ?_
            refine Ev.iastE (k := k') rfl h_worth rfl ⟨(by omega), by decide⟩ (fun τ3 f1 h_worth => ?_)
            have hsh := frm.cell f1 hsh (by omega)
            have h_who := frm.cell f1 h_who (by omega)
            have h_best := frm.cell f1 h_best (by omega)
            have fr := fr.step f1 (by omega) (by omega)
            have hS := hS0.frm fr (by omega)
            obtain ⟨h0, h1, h2, h3, h4, h5, h6', h7, h8, h9, h10⟩ := id hS
            have hP := hP0.frm fr (by omega)
            obtain ⟨p0, ⟨pf, p1, p2⟩, p3⟩ := id hP
            refine Ev.iinc (d := 1) rfl rfl rfl (by decide) rfl ?_
            refine Ev.goto (tgt := 67) rfl (by decide) ?_
            have hF : (F_without_67 S P tc w wo be we k z) k' z' = (upd z' k' (-1000000000 : Int32)) := by
              unfold F_without_67
              rw [if_pos c93]
            rw [hF] at hx'
            exact (hx' τ3 fr hsh h_who h_best h_worth).fg (gs rfl (gs rfl (gs rfl (gs rfl (gn (gs rfl (gs rfl (gs (congrArg Value.int (show nI (k' + 1) = (nI k') + (1 : Int32) from (nq_to (a := k' + 1) (nq_add (a := k') (b := 1) rfl (rfl : (1 : Int32) = nI 1)) (by omega)).symm)) gz))))))))
          · skip
            refine Ev.aload_n rfl rfl ?_
            refine Ev.aload rfl rfl ?_
            refine Ev.aload rfl rfl ?_
            refine Ev.getf rfl rfl (p3 k (by omega)) rfl ?_
            refine Ev.aload_n rfl rfl ?_
            refine Ev.iload rfl rfl ?_
            refine Ev.cV1 rfl rfl hsh rfl rfl (by decide) ⟨(Nat.le_refl _), (Nat.le_refl _)⟩ (lOf_ok hsh h_who h_best h_worth (by omega) _) ?_
            refine Ev.ior rfl ?_
            refine Ev.cV2 rfl rfl h0 rfl rfl (by decide) ⟨(Nat.le_refl _), (Nat.le_refl _)⟩ (tog_ok hS (p3 k (by omega)) _ (ht k (by omega)) hn5) ?_
            refine Ev.goto (tgt := 119) rfl (by decide) ?_
            refine Ev.iastE (k := k') rfl h_worth rfl ⟨(by omega), by decide⟩ (fun τ4 f1 h_worth => ?_)
            have hsh := frm.cell f1 hsh (by omega)
            have h_who := frm.cell f1 h_who (by omega)
            have h_best := frm.cell f1 h_best (by omega)
            have fr := fr.step f1 (by omega) (by omega)
            have hS := hS0.frm fr (by omega)
            obtain ⟨h0, h1, h2, h3, h4, h5, h6', h7, h8, h9, h10⟩ := id hS
            have hP := hP0.frm fr (by omega)
            obtain ⟨p0, ⟨pf, p1, p2⟩, p3⟩ := id hP
            refine Ev.iinc (d := 1) rfl rfl rfl (by decide) rfl ?_
            refine Ev.goto (tgt := 67) rfl (by decide) ?_
            have hF : (F_without_67 S P tc w wo be we k z) k' z' = (upd z' k' (K_tog S (P.2 k) (((P.2 k) 5) ||| (K_lOf ((K_begin w wo).1) ((K_begin w wo).2) (nI k'))))) := by
              unfold F_without_67
              rw [if_neg c93]
            rw [hF] at hx'
            exact (hx' τ4 fr hsh h_who h_best h_worth).fg (gs rfl (gs rfl (gs rfl (gs rfl (gn (gs rfl (gs rfl (gs (congrArg Value.int (show nI (k' + 1) = (nI k') + (1 : Int32) from (nq_to (a := k' + 1) (nq_add (a := k') (b := 1) rfl (rfl : (1 : Int32) = nI 1)) (by omega)).symm)) gz))))))))
        · skip
          intro τ'' fr hsh h_who h_best h_worth
          have hS := hS0.frm fr (by omega)
          obtain ⟨h0, h1, h2, h3, h4, h5, h6', h7, h8, h9, h10⟩ := id hS
          have hP := hP0.frm fr (by omega)
          obtain ⟨p0, ⟨pf, p1, p2⟩, p3⟩ := id hP
          refine Ev.iload rfl rfl ?_
          refine Ev.iconst (v := 1) rfl (by decide) ?_
          refine Ev.aload_n rfl rfl ?_
          refine Ev.getf rfl rfl hsh rfl ?_
          refine Ev.ishl rfl ?_
          refine Ev.jge (tgt := 126) rfl (by decide) (fun c75 => ?_) (fun c75 => absurd c75 (nltN (nq_shl rfl (by omega)) (by omega)))
          refine Ev.aload_n rfl rfl ?_
          refine Ev.xV0u rfl rfl hsh rfl rfl (by decide) ⟨(Nat.le_refl _), (Nat.le_refl _)⟩ (give_ok hsh h_who h_best h_worth (by omega)) (fun τ5 f1 q1 => ?_)
          obtain ⟨h_best, hsh, h_who, h_worth⟩ := q1
          have fr := fr.step f1 (by omega) (by omega)
          have hS := hS0.frm fr (by omega)
          obtain ⟨h0, h1, h2, h3, h4, h5, h6', h7, h8, h9, h10⟩ := id hS
          have hP := hP0.frm fr (by omega)
          obtain ⟨p0, ⟨pf, p1, p2⟩, p3⟩ := id hP
          refine Ev.iinc (d := 1) rfl rfl rfl (by decide) rfl ?_
          refine Ev.goto (tgt := 37) rfl (by decide) ?_
          have hF : (F_without_37 S P tc w wo be we) k z = (K_give ((K_begin w wo).1) z.1 (fo (F_without_67 S P tc w wo be we k z) (2 ^ ((K_begin w wo).1)) 0 z.2), (fo (F_without_67 S P tc w wo be we k z) (2 ^ ((K_begin w wo).1)) 0 z.2)) := by
            unfold F_without_37
            rw [if_neg c61]
          rw [hF] at hx
          exact (hx τ5 fr hsh h_who h_best h_worth).fg (gs rfl (gs rfl (gs rfl (gs rfl (gn (gs (congrArg Value.int (show nI (k + 1) = (nI k) + (1 : Int32) from (nq_to (a := k + 1) (nq_add (a := k) (b := 1) rfl (rfl : (1 : Int32) = nI 1)) (by omega)).symm)) (gn (gn gz))))))))
    · skip
      intro τ' fr hsh h_who h_best h_worth
      have hS := hS0.frm fr (by omega)
      obtain ⟨h0, h1, h2, h3, h4, h5, h6', h7, h8, h9, h10⟩ := id hS
      have hP := hP0.frm fr (by omega)
      obtain ⟨p0, ⟨pf, p1, p2⟩, p3⟩ := id hP
      refine Ev.iload rfl rfl ?_
      refine Ev.aload_n rfl rfl ?_
      refine Ev.getf rfl rfl p0 rfl ?_
      refine Ev.jge (tgt := 136) rfl (by decide) (fun c43 => ?_) (fun c43 => absurd c43 (nI_nlt (Nat.le_refl _) (by omega)))
      refine Ev.aload_n rfl rfl ?_
      refine Ev.getf rfl rfl hsh rfl ?_
      refine Ev.iconst (v := 1) rfl (by decide) ?_
      refine Ev.aload_n rfl rfl ?_
      refine Ev.getf rfl rfl hsh rfl ?_
      refine Ev.ishl rfl ?_
      refine Ev.iconst (v := 1) rfl (by decide) ?_
      refine Ev.isub rfl ?_
      refine Ev.ialdN (k := (2 ^ ((K_begin w wo).1)) - 1) rfl h_best (nq_sub (a := 2 ^ ((K_begin w wo).1)) (b := 1) (nq_shl rfl (by omega)) (rfl : (1 : Int32) = nI 1) (by omega)) ⟨(by omega), by decide⟩ ?_
      refine Ev.iret (ty := .int) rfl rfl rfl (Nat.le_refl _) (Nat.le_refl _) ?_
      have hK : (K_without S P tc w wo be we) = (((fo (F_without_37 S P tc w wo be we) (P.1) 0 ((fo (F_without_9 S P tc w wo be we) (2 ^ ((K_begin w wo).1)) 0 be), we)).1) ((2 ^ ((K_begin w wo).1)) - 1), (K_begin w wo).1, (K_begin w wo).2, (fo (F_without_37 S P tc w wo be we) (P.1) 0 ((fo (F_without_9 S P tc w wo be we) (2 ^ ((K_begin w wo).1)) 0 be), we)).1, (fo (F_without_37 S P tc w wo be we) (P.1) 0 ((fo (F_without_9 S P tc w wo be we) (2 ^ ((K_begin w wo).1)) 0 be), we)).2) := by rfl
      rw [← hQ]
      dsimp only
      rw [hK]
      exact ⟨rfl, fr, hsh, h_who, h_best, h_worth⟩
def K_most (n : Nat) (be : Nat → Int32) : Int32 := (((be ((2 ^ n) - 1)) + (65536 : Int32)) - (1 : Int32)) / (65536 : Int32)
theorem most_ok {n : Nat} {wo be we : Nat → Int32} (hsh : σ.2 (q) = some (.inr (.inr (7, [.ref (q + 1), .int (nI n), .ref (q + 2), .ref (q + 3)])))) (h_who : σ.2 (q + 1) = some (.inl (0, 8, wo))) (h_best : σ.2 (q + 2) = some (.inl (0, 256, be))) (h_worth : σ.2 (q + 3) = some (.inl (0, 256, we))) (hn8 : n ≤ 8) : RetV Γ m_Sharing_most [(.ref q)] σ (.int (K_most n be)) := by
  obtain ⟨hp1, hp2⟩ := pow8 hn8
  unfold RetV
  generalize hQ : (fun (r : Option Value) (σ' : ex_S) => r = some ((.int (K_most n be)) : Value) ∧ σ' = σ) = Q
  refine Ret.start pm_140 rfl ?_
  refine Ev.aload_n rfl rfl ?_
  refine Ev.getf rfl rfl hsh rfl ?_
  refine Ev.iconst (v := 1) rfl (by decide) ?_
  refine Ev.aload_n rfl rfl ?_
  refine Ev.getf rfl rfl hsh rfl ?_
  refine Ev.ishl rfl ?_
  refine Ev.iconst (v := 1) rfl (by decide) ?_
  refine Ev.isub rfl ?_
  refine Ev.ialdN (k := (2 ^ n) - 1) rfl h_best (nq_sub (a := 2 ^ n) (b := 1) (nq_shl rfl (by omega)) (rfl : (1 : Int32) = nI 1) (by omega)) ⟨(by omega), by decide⟩ ?_
  refine Ev.ldc (v := (65536)) rfl rfl ?_
  refine Ev.iadd rfl ?_
  refine Ev.iconst (v := 1) rfl (by decide) ?_
  refine Ev.isub rfl ?_
  refine Ev.ldc (v := (65536)) rfl rfl ?_
  refine Ev.idiv rfl (by decide) ?_
  refine Ev.iret (ty := .int) rfl rfl rfl (Nat.le_refl _) (Nat.le_refl _) ?_
  rw [← hQ]
  refine ⟨congrArg (fun v => some (Value.int v)) (Eq.symm ?_), rfl⟩
  rfl
def K_classOf (n : Nat) (be : Nat → Int32) (l : Nat) : Int32 := ((((K_most n be) * (65536 : Int32)) - (be ((2 ^ n) - 1))) >>> (((2 : Int32) * ((7 : Int32) - (nI l))) &&& 31)) &&& (3 : Int32)
theorem classOf_ok {n : Nat} {wo be we : Nat → Int32} (hsh : σ.2 (q) = some (.inr (.inr (7, [.ref (q + 1), .int (nI n), .ref (q + 2), .ref (q + 3)])))) (h_who : σ.2 (q + 1) = some (.inl (0, 8, wo))) (h_best : σ.2 (q + 2) = some (.inl (0, 256, be))) (h_worth : σ.2 (q + 3) = some (.inl (0, 256, we))) (hn8 : n ≤ 8) {l : Nat} (hl : l < 8) : RetV Γ m_Sharing_classOf [(.ref q), (.int (nI l))] σ (.int (K_classOf n be l)) := by
  obtain ⟨hp1, hp2⟩ := pow8 hn8
  unfold RetV
  generalize hQ : (fun (r : Option Value) (σ' : ex_S) => r = some ((.int (K_classOf n be l)) : Value) ∧ σ' = σ) = Q
  refine Ret.start pm_141 rfl ?_
  refine Ev.iload_n rfl rfl ?_
  refine Ev.zlt (tgt := 10) rfl (by decide) (fun c1 => absurd c1 (nI_pos (by omega))) (fun c1 => ?_)
  refine Ev.iload_n rfl rfl ?_
  refine Ev.bipush (v := 8) rfl (by decide) ?_
  refine Ev.jlt (tgt := 12) rfl (by decide) (fun c7 => ?_) (fun c7 => absurd (nI_lt (b := 8) hl (by omega)) c7)
  refine Ev.aload_n rfl rfl ?_
  refine Ev.cV0 rfl rfl hsh rfl rfl (by decide) ⟨(Nat.le_refl _), (Nat.le_refl _)⟩ (most_ok hsh h_who h_best h_worth (by omega)) ?_
  refine Ev.ldc (v := (65536)) rfl rfl ?_
  refine Ev.imul rfl ?_
  refine Ev.aload_n rfl rfl ?_
  refine Ev.getf rfl rfl hsh rfl ?_
  refine Ev.iconst (v := 1) rfl (by decide) ?_
  refine Ev.aload_n rfl rfl ?_
  refine Ev.getf rfl rfl hsh rfl ?_
  refine Ev.ishl rfl ?_
  refine Ev.iconst (v := 1) rfl (by decide) ?_
  refine Ev.isub rfl ?_
  refine Ev.ialdN (k := (2 ^ n) - 1) rfl h_best (nq_sub (a := 2 ^ n) (b := 1) (nq_shl rfl (by omega)) (rfl : (1 : Int32) = nI 1) (by omega)) ⟨(by omega), by decide⟩ ?_
  refine Ev.isub rfl ?_
  refine Ev.istore_n rfl rfl rfl ?_
  refine Ev.iload_n rfl rfl ?_
  refine Ev.iconst (v := 2) rfl (by decide) ?_
  refine Ev.bipush (v := 7) rfl (by decide) ?_
  refine Ev.iload_n rfl rfl ?_
  refine Ev.isub rfl ?_
  refine Ev.imul rfl ?_
  refine Ev.ishr rfl ?_
  refine Ev.iconst (v := 3) rfl (by decide) ?_
  refine Ev.iand rfl ?_
  refine Ev.iret (ty := .int) rfl rfl rfl (Nat.le_refl _) (Nat.le_refl _) ?_
  rw [← hQ]
  refine ⟨congrArg (fun v => some (Value.int v)) (Eq.symm ?_), rfl⟩
  rfl
def K_seats0 (T : Tol) (i j : Nat) (wo be we : Nat → Int32) : Int32 × Nat × (Nat → Int32) × (Nat → Int32) × (Nat → Int32) := (K_most ((K_seatAll (tS T i) (tP T j) wo be we).1) ((K_seatAll (tS T i) (tP T j) wo be we).2.2.1), (K_seatAll (tS T i) (tP T j) wo be we).1, (K_seatAll (tS T i) (tP T j) wo be we).2.1, (K_seatAll (tS T i) (tP T j) wo be we).2.2.1, (K_seatAll (tS T i) (tP T j) wo be we).2.2.2)
theorem seats0_some (hX0 : isX σ x) (hT0 : isT σ (x + 1) T) (hw : wT T) {u v : Int32} {i j : Nat} (hg : gd T u v i j) {n0 : Nat} {wo be we : Nat → Int32} (hsh : σ.2 (x + 104) = some (.inr (.inr (7, [.ref (x + 104 + 1), .int (nI n0), .ref (x + 104 + 2), .ref (x + 104 + 3)])))) (h_who : σ.2 (x + 104 + 1) = some (.inl (0, 8, wo))) (h_best : σ.2 (x + 104 + 2) = some (.inl (0, 256, be))) (h_worth : σ.2 (x + 104 + 3) = some (.inl (0, 256, we))) (hs8 : (tS T i).1 ≤ 8) (hp3 : (tP T j).1 ≤ 3) : RetX Γ m_SD_seats [(.ref x), .int u, .int v, (.int (0 : Int32))] σ (x + 104) (x + 108) (some (.int ((K_seats0 T i j wo be we).1))) (fun τ => τ.2 (x + 104) = some (.inr (.inr (7, [(.ref (x + 104 + 1)), (.int (nI ((K_seats0 T i j wo be we).2.1))), (.ref (x + 104 + 2)), (.ref (x + 104 + 3))]))) ∧ τ.2 (x + 104 + 1) = some (.inl (0, 8, (K_seats0 T i j wo be we).2.2.1)) ∧ τ.2 (x + 104 + 2) = some (.inl (0, 256, (K_seats0 T i j wo be we).2.2.2.1)) ∧ τ.2 (x + 104 + 3) = some (.inl (0, 256, (K_seats0 T i j wo be we).2.2.2.2))) := by
  obtain ⟨rfl, hi, rfl, hj, hgo⟩ := hg
  have hw1 := hw.2.1
  have hw2 := hw.2.2.1
  have hwS := hw.2.2.2.1 i hi
  have hwP := hw.2.2.2.2 j hj
  have hn16 := hwS.1
  have hn5 := hwS.2.1
  have h6 := hwP.1
  have hokL : ∀ k, k < (tP T j).1 → okL (tS T i) ((tP T j).2 k) := fun k hk => goT_okL hwS (hgo k hk).1
  unfold RetX
  generalize hQ : (fun (r : Option Value) (τ : ex_S) => r = some (.int ((K_seats0 T i j wo be we).1)) ∧ frm σ τ (x + 104) (x + 108) ∧ (fun τ : ex_S => τ.2 (x + 104) = some (.inr (.inr (7, [(.ref (x + 104 + 1)), (.int (nI ((K_seats0 T i j wo be we).2.1))), (.ref (x + 104 + 2)), (.ref (x + 104 + 3))]))) ∧ τ.2 (x + 104 + 1) = some (.inl (0, 8, (K_seats0 T i j wo be we).2.2.1)) ∧ τ.2 (x + 104 + 2) = some (.inl (0, 256, (K_seats0 T i j wo be we).2.2.2.1)) ∧ τ.2 (x + 104 + 3) = some (.inl (0, 256, (K_seats0 T i j wo be we).2.2.2.2))) τ) = Q
  refine Ret.start pm_17 rfl ?_
  have fr : frm σ σ (x + 104) (x + 108) := frm.rf
  have hX := isX.frm hX0 fr (by omega)
  have hT := isT.frm hT0 fr (by omega)
  obtain ⟨t0, t1, ⟨fs, t2, t3⟩, ⟨fp, t4, t5⟩, t6, t7⟩ := id hT
  have hSi := t6 i (by omega)
  obtain ⟨h0, h1, h2, h3, h4, h5, h6', h7, h8, h9, h10⟩ := id hSi
  have hPj := t7 j (by omega)
  obtain ⟨p0, ⟨pf, p1, p2⟩, p3⟩ := id hPj
  refine Ev.aload_n rfl rfl ?_
  refine Ev.iload_n rfl rfl ?_
  refine Ev.iload_n rfl rfl ?_
  refine Ev.cV2 rfl rfl hX rfl rfl (by decide) ⟨(Nat.le_refl _), (Nat.le_refl _)⟩ (going_some hX hT hw ⟨rfl, hi, rfl, hj, hgo⟩) ?_
  refine Ev.astore rfl rfl rfl ?_
  refine Ev.aload_n rfl rfl ?_
  refine Ev.getf rfl rfl hX rfl ?_
  refine Ev.iload_n rfl rfl ?_
  refine Ev.cV1 rfl rfl t0 rfl rfl (by decide) ⟨(Nat.le_refl _), (Nat.le_refl _)⟩ (schoolAt_some hT hw1 hi) ?_
  refine Ev.astore rfl rfl rfl ?_
  refine Ev.aload rfl rfl ?_
  refine Ev.ifnull rfl ?_
  refine Ev.aload rfl rfl ?_
  refine Ev.ifnull rfl ?_
  refine Ev.aload rfl rfl ?_
  refine Ev.getf rfl rfl h0 rfl ?_
  refine Ev.bipush (v := 8) rfl (by decide) ?_
  refine Ev.jgt (tgt := 47) rfl (by decide) (fun c35 => absurd c35 (nI_nlt (a := 8) hs8 (by omega))) (fun c35 => ?_)
  refine Ev.aload rfl rfl ?_
  refine Ev.getf rfl rfl p0 rfl ?_
  refine Ev.iconst (v := 3) rfl (by decide) ?_
  refine Ev.jle (tgt := 50) rfl (by decide) (fun c44 => ?_) (fun c44 => absurd c44 (nI_nlt (a := 3) hp3 (by omega)))
  refine Ev.iload_n rfl rfl ?_
  refine Ev.zeq (tgt := 75) rfl (by decide) (fun c51 => ?_) (fun c51 => absurd (by decide) c51)
  refine Ev.aload_n rfl rfl ?_
  refine Ev.getf rfl rfl hX rfl ?_
  refine Ev.aload rfl rfl ?_
  refine Ev.aload rfl rfl ?_
  refine Ev.xV2u rfl rfl hsh rfl rfl (by decide) ⟨(Nat.le_refl _), (Nat.le_refl _)⟩ (seatAll_ok hsh h_who h_best h_worth hSi hPj hwP hn16 hn5 hokL (by omega) (by omega)) (fun τ1 f1 q1 => ?_)
  obtain ⟨hsh, h_who, h_best, h_worth⟩ := q1
  have fr := fr.step f1 (by omega) (by omega)
  have hX := isX.frm hX0 fr (by omega)
  have hT := isT.frm hT0 fr (by omega)
  obtain ⟨t0, t1, ⟨fs, t2, t3⟩, ⟨fp, t4, t5⟩, t6, t7⟩ := id hT
  have hSi := t6 i (by omega)
  obtain ⟨h0, h1, h2, h3, h4, h5, h6', h7, h8, h9, h10⟩ := id hSi
  have hPj := t7 j (by omega)
  obtain ⟨p0, ⟨pf, p1, p2⟩, p3⟩ := id hPj
  have hsz : (K_seatAll (tS T i) (tP T j) wo be we).1 ≤ 8 := begin_le _ _
  refine Ev.iload_n rfl rfl ?_
  refine Ev.zne (tgt := 98) rfl (by decide) (fun c87 => absurd (by decide) c87) (fun c87 => ?_)
  refine Ev.aload_n rfl rfl ?_
  refine Ev.getf rfl rfl hX rfl ?_
  refine Ev.cV0 rfl rfl hsh rfl rfl (by decide) ⟨(Nat.le_refl _), (Nat.le_refl _)⟩ (most_ok hsh h_who h_best h_worth (by omega)) ?_
  refine Ev.iret (ty := .int) rfl rfl rfl (Nat.le_refl _) (Nat.le_refl _) ?_
  have hK : (K_seats0 T i j wo be we) = (K_most ((K_seatAll (tS T i) (tP T j) wo be we).1) ((K_seatAll (tS T i) (tP T j) wo be we).2.2.1), (K_seatAll (tS T i) (tP T j) wo be we).1, (K_seatAll (tS T i) (tP T j) wo be we).2.1, (K_seatAll (tS T i) (tP T j) wo be we).2.2.1, (K_seatAll (tS T i) (tP T j) wo be we).2.2.2) := by rfl
  rw [← hQ]
  dsimp only
  rw [hK]
  exact ⟨rfl, fr, hsh, h_who, h_best, h_worth⟩
def K_seatsL (T : Tol) (i j : Nat) (l : Nat) (wo be we : Nat → Int32) : Int32 × Nat × (Nat → Int32) × (Nat → Int32) × (Nat → Int32) := if (K_classOf ((K_seatAll (tS T i) (tP T j) wo be we).1) ((K_seatAll (tS T i) (tP T j) wo be we).2.2.1) ((10 + l) - 10)) < (nI ((tP T j).1)) then (K_classOf ((K_seatAll (tS T i) (tP T j) wo be we).1) ((K_seatAll (tS T i) (tP T j) wo be we).2.2.1) ((10 + l) - 10), (K_seatAll (tS T i) (tP T j) wo be we).1, (K_seatAll (tS T i) (tP T j) wo be we).2.1, (K_seatAll (tS T i) (tP T j) wo be we).2.2.1, (K_seatAll (tS T i) (tP T j) wo be we).2.2.2) else ((-1 : Int32), (K_seatAll (tS T i) (tP T j) wo be we).1, (K_seatAll (tS T i) (tP T j) wo be we).2.1, (K_seatAll (tS T i) (tP T j) wo be we).2.2.1, (K_seatAll (tS T i) (tP T j) wo be we).2.2.2)
theorem seatsL_some (hX0 : isX σ x) (hT0 : isT σ (x + 1) T) (hw : wT T) {u v : Int32} {i j : Nat} (hg : gd T u v i j) {n0 : Nat} {wo be we : Nat → Int32} (hsh : σ.2 (x + 104) = some (.inr (.inr (7, [.ref (x + 104 + 1), .int (nI n0), .ref (x + 104 + 2), .ref (x + 104 + 3)])))) (h_who : σ.2 (x + 104 + 1) = some (.inl (0, 8, wo))) (h_best : σ.2 (x + 104 + 2) = some (.inl (0, 256, be))) (h_worth : σ.2 (x + 104 + 3) = some (.inl (0, 256, we))) (hs8 : (tS T i).1 ≤ 8) (hp3 : (tP T j).1 ≤ 3) {l : Nat} (hl : l < (tS T i).1) : RetX Γ m_SD_seats [(.ref x), .int u, .int v, (.int (nI (10 + l)))] σ (x + 104) (x + 108) (some (.int ((K_seatsL T i j l wo be we).1))) (fun τ => τ.2 (x + 104) = some (.inr (.inr (7, [(.ref (x + 104 + 1)), (.int (nI ((K_seatsL T i j l wo be we).2.1))), (.ref (x + 104 + 2)), (.ref (x + 104 + 3))]))) ∧ τ.2 (x + 104 + 1) = some (.inl (0, 8, (K_seatsL T i j l wo be we).2.2.1)) ∧ τ.2 (x + 104 + 2) = some (.inl (0, 256, (K_seatsL T i j l wo be we).2.2.2.1)) ∧ τ.2 (x + 104 + 3) = some (.inl (0, 256, (K_seatsL T i j l wo be we).2.2.2.2))) := by
  obtain ⟨rfl, hi, rfl, hj, hgo⟩ := hg
  have hw1 := hw.2.1
  have hw2 := hw.2.2.1
  have hwS := hw.2.2.2.1 i hi
  have hwP := hw.2.2.2.2 j hj
  have hn16 := hwS.1
  have hn5 := hwS.2.1
  have h6 := hwP.1
  have hokL : ∀ k, k < (tP T j).1 → okL (tS T i) ((tP T j).2 k) := fun k hk => goT_okL hwS (hgo k hk).1
  unfold RetX
  generalize hQ : (fun (r : Option Value) (τ : ex_S) => r = some (.int ((K_seatsL T i j l wo be we).1)) ∧ frm σ τ (x + 104) (x + 108) ∧ (fun τ : ex_S => τ.2 (x + 104) = some (.inr (.inr (7, [(.ref (x + 104 + 1)), (.int (nI ((K_seatsL T i j l wo be we).2.1))), (.ref (x + 104 + 2)), (.ref (x + 104 + 3))]))) ∧ τ.2 (x + 104 + 1) = some (.inl (0, 8, (K_seatsL T i j l wo be we).2.2.1)) ∧ τ.2 (x + 104 + 2) = some (.inl (0, 256, (K_seatsL T i j l wo be we).2.2.2.1)) ∧ τ.2 (x + 104 + 3) = some (.inl (0, 256, (K_seatsL T i j l wo be we).2.2.2.2))) τ) = Q
  refine Ret.start pm_17 rfl ?_
  have fr : frm σ σ (x + 104) (x + 108) := frm.rf
  have hX := isX.frm hX0 fr (by omega)
  have hT := isT.frm hT0 fr (by omega)
  obtain ⟨t0, t1, ⟨fs, t2, t3⟩, ⟨fp, t4, t5⟩, t6, t7⟩ := id hT
  have hSi := t6 i (by omega)
  obtain ⟨h0, h1, h2, h3, h4, h5, h6', h7, h8, h9, h10⟩ := id hSi
  have hPj := t7 j (by omega)
  obtain ⟨p0, ⟨pf, p1, p2⟩, p3⟩ := id hPj
  refine Ev.aload_n rfl rfl ?_
  refine Ev.iload_n rfl rfl ?_
  refine Ev.iload_n rfl rfl ?_
  refine Ev.cV2 rfl rfl hX rfl rfl (by decide) ⟨(Nat.le_refl _), (Nat.le_refl _)⟩ (going_some hX hT hw ⟨rfl, hi, rfl, hj, hgo⟩) ?_
  refine Ev.astore rfl rfl rfl ?_
  refine Ev.aload_n rfl rfl ?_
  refine Ev.getf rfl rfl hX rfl ?_
  refine Ev.iload_n rfl rfl ?_
  refine Ev.cV1 rfl rfl t0 rfl rfl (by decide) ⟨(Nat.le_refl _), (Nat.le_refl _)⟩ (schoolAt_some hT hw1 hi) ?_
  refine Ev.astore rfl rfl rfl ?_
  refine Ev.aload rfl rfl ?_
  refine Ev.ifnull rfl ?_
  refine Ev.aload rfl rfl ?_
  refine Ev.ifnull rfl ?_
  refine Ev.aload rfl rfl ?_
  refine Ev.getf rfl rfl h0 rfl ?_
  refine Ev.bipush (v := 8) rfl (by decide) ?_
  refine Ev.jgt (tgt := 47) rfl (by decide) (fun c35 => absurd c35 (nI_nlt (a := 8) hs8 (by omega))) (fun c35 => ?_)
  refine Ev.aload rfl rfl ?_
  refine Ev.getf rfl rfl p0 rfl ?_
  refine Ev.iconst (v := 3) rfl (by decide) ?_
  refine Ev.jle (tgt := 50) rfl (by decide) (fun c44 => ?_) (fun c44 => absurd c44 (nI_nlt (a := 3) hp3 (by omega)))
  refine Ev.iload_n rfl rfl ?_
  refine Ev.zeq (tgt := 75) rfl (by decide) (fun c51 => absurd c51 (nI_ne0 (by omega) (by omega))) (fun c51 => ?_)
  refine Ev.iload_n rfl rfl ?_
  refine Ev.bipush (v := 10) rfl (by decide) ?_
  refine Ev.jlt (tgt := 72) rfl (by decide) (fun c57 => absurd c57 (nI_nlt (b := 10) (by omega) (by omega))) (fun c57 => ?_)
  refine Ev.iload_n rfl rfl ?_
  refine Ev.bipush (v := 10) rfl (by decide) ?_
  refine Ev.aload rfl rfl ?_
  refine Ev.getf rfl rfl h0 rfl ?_
  refine Ev.iadd rfl ?_
  refine Ev.jlt (tgt := 75) rfl (by decide) (fun c69 => ?_) (fun c69 => absurd (show nI (10 + l) < 10 + nI (tS T i).1 from by rw [show (10 : Int32) + nI (tS T i).1 = nI (10 + (tS T i).1) from nq_add (a := 10) rfl rfl]; exact nI_lt (by omega) (by omega)) c69)
  refine Ev.aload_n rfl rfl ?_
  refine Ev.getf rfl rfl hX rfl ?_
  refine Ev.aload rfl rfl ?_
  refine Ev.aload rfl rfl ?_
  refine Ev.xV2u rfl rfl hsh rfl rfl (by decide) ⟨(Nat.le_refl _), (Nat.le_refl _)⟩ (seatAll_ok hsh h_who h_best h_worth hSi hPj hwP hn16 hn5 hokL (by omega) (by omega)) (fun τ1 f1 q1 => ?_)
  obtain ⟨hsh, h_who, h_best, h_worth⟩ := q1
  have fr := fr.step f1 (by omega) (by omega)
  have hX := isX.frm hX0 fr (by omega)
  have hT := isT.frm hT0 fr (by omega)
  obtain ⟨t0, t1, ⟨fs, t2, t3⟩, ⟨fp, t4, t5⟩, t6, t7⟩ := id hT
  have hSi := t6 i (by omega)
  obtain ⟨h0, h1, h2, h3, h4, h5, h6', h7, h8, h9, h10⟩ := id hSi
  have hPj := t7 j (by omega)
  obtain ⟨p0, ⟨pf, p1, p2⟩, p3⟩ := id hPj
  have hsz : (K_seatAll (tS T i) (tP T j) wo be we).1 ≤ 8 := begin_le _ _
  refine Ev.iload_n rfl rfl ?_
  refine Ev.zne (tgt := 98) rfl (by decide) (fun c87 => ?_) (fun c87 => absurd c87 (nI_ne0 (by omega) (by omega)))
  refine Ev.aload_n rfl rfl ?_
  refine Ev.getf rfl rfl hX rfl ?_
  refine Ev.iload_n rfl rfl ?_
  refine Ev.bipush (v := 10) rfl (by decide) ?_
  refine Ev.isub rfl ?_
  refine Ev.cV1 rfl rfl hsh rfl rfl (by decide) ⟨(Nat.le_refl _), (Nat.le_refl _)⟩ (classOf_ok hsh h_who h_best h_worth (by omega) (l := (10 + l) - 10) (by omega)) ?_
  refine Ev.istore rfl rfl rfl ?_
  refine Ev.iload rfl rfl ?_
  refine Ev.aload rfl rfl ?_
  refine Ev.getf rfl rfl p0 rfl ?_
  refine Ev.jge (tgt := 126) rfl (by decide) (fun c118 => ?_) (fun c118 => ?_)
  · skip
    refine Ev.iconst (v := (-1)) rfl (by decide) ?_
    refine Ev.iret (ty := .int) rfl rfl rfl (Nat.le_refl _) (Nat.le_refl _) ?_
    have hK : (K_seatsL T i j l wo be we) = ((-1 : Int32), (K_seatAll (tS T i) (tP T j) wo be we).1, (K_seatAll (tS T i) (tP T j) wo be we).2.1, (K_seatAll (tS T i) (tP T j) wo be we).2.2.1, (K_seatAll (tS T i) (tP T j) wo be we).2.2.2) := by
      unfold K_seatsL
      rw [if_neg c118]
    rw [← hQ]
    dsimp only
    rw [hK]
    exact ⟨rfl, fr, hsh, h_who, h_best, h_worth⟩
  · skip
    refine Ev.iload rfl rfl ?_
    refine Ev.goto (tgt := 127) rfl (by decide) ?_
    refine Ev.iret (ty := .int) rfl rfl rfl (Nat.le_refl _) (Nat.le_refl _) ?_
    have hK : (K_seatsL T i j l wo be we) = (K_classOf ((K_seatAll (tS T i) (tP T j) wo be we).1) ((K_seatAll (tS T i) (tP T j) wo be we).2.2.1) ((10 + l) - 10), (K_seatAll (tS T i) (tP T j) wo be we).1, (K_seatAll (tS T i) (tP T j) wo be we).2.1, (K_seatAll (tS T i) (tP T j) wo be we).2.2.1, (K_seatAll (tS T i) (tP T j) wo be we).2.2.2) := by
      unfold K_seatsL
      rw [if_pos c118]
    rw [← hQ]
    dsimp only
    rw [hK]
    exact ⟨rfl, fr, hsh, h_who, h_best, h_worth⟩
def K_ill (T : Tol) (i j : Nat) (t : Nat) (wo be we : Nat → Int32) : Int32 × Nat × (Nat → Int32) × (Nat → Int32) × (Nat → Int32) := if (6 : Int32) < (K_bc ((K_sits (tP T j)) &&& ((K_seat (tP T j) (nI t)) ^^^ (-1 : Int32)))) then ((-1 : Int32), n0, wo, be, we) else ((K_without (tS T i) (tP T j) (nI t) ((K_sits (tP T j)) &&& ((K_seat (tP T j) (nI t)) ^^^ (-1 : Int32))) wo be we).1, (K_without (tS T i) (tP T j) (nI t) ((K_sits (tP T j)) &&& ((K_seat (tP T j) (nI t)) ^^^ (-1 : Int32))) wo be we).2.1, (K_without (tS T i) (tP T j) (nI t) ((K_sits (tP T j)) &&& ((K_seat (tP T j) (nI t)) ^^^ (-1 : Int32))) wo be we).2.2.1, (K_without (tS T i) (tP T j) (nI t) ((K_sits (tP T j)) &&& ((K_seat (tP T j) (nI t)) ^^^ (-1 : Int32))) wo be we).2.2.2.1, (K_without (tS T i) (tP T j) (nI t) ((K_sits (tP T j)) &&& ((K_seat (tP T j) (nI t)) ^^^ (-1 : Int32))) wo be we).2.2.2.2)
theorem ill_some (hX0 : isX σ x) (hT0 : isT σ (x + 1) T) (hw : wT T) {u v : Int32} {i j : Nat} (hg : gd T u v i j) {n0 : Nat} {wo be we : Nat → Int32} (hsh : σ.2 (x + 104) = some (.inr (.inr (7, [.ref (x + 104 + 1), .int (nI n0), .ref (x + 104 + 2), .ref (x + 104 + 3)])))) (h_who : σ.2 (x + 104 + 1) = some (.inl (0, 8, wo))) (h_best : σ.2 (x + 104 + 2) = some (.inl (0, 256, be))) (h_worth : σ.2 (x + 104 + 3) = some (.inl (0, 256, we))) {t : Nat} (ht : t < (tS T i).2.1) : RetX Γ m_SD_ill [(.ref x), .int u, .int v, (.int (nI t))] σ (x + 104) (x + 108) (some (.int ((K_ill T i j t wo be we).1))) (fun τ => τ.2 (x + 104) = some (.inr (.inr (7, [(.ref (x + 104 + 1)), (.int (nI ((K_ill T i j t wo be we).2.1))), (.ref (x + 104 + 2)), (.ref (x + 104 + 3))]))) ∧ τ.2 (x + 104 + 1) = some (.inl (0, 8, (K_ill T i j t wo be we).2.2.1)) ∧ τ.2 (x + 104 + 2) = some (.inl (0, 256, (K_ill T i j t wo be we).2.2.2.1)) ∧ τ.2 (x + 104 + 3) = some (.inl (0, 256, (K_ill T i j t wo be we).2.2.2.2))) := by
  obtain ⟨rfl, hi, rfl, hj, hgo⟩ := hg
  have hw1 := hw.2.1
  have hw2 := hw.2.2.1
  have hwS := hw.2.2.2.1 i hi
  have hwP := hw.2.2.2.2 j hj
  have hn16 := hwS.1
  have hn5 := hwS.2.1
  have h6 := hwP.1
  have hokL : ∀ k, k < (tP T j).1 → okL (tS T i) ((tP T j).2 k) := fun k hk => goT_okL hwS (hgo k hk).1
  unfold RetX
  generalize hQ : (fun (r : Option Value) (τ : ex_S) => r = some (.int ((K_ill T i j t wo be we).1)) ∧ frm σ τ (x + 104) (x + 108) ∧ (fun τ : ex_S => τ.2 (x + 104) = some (.inr (.inr (7, [(.ref (x + 104 + 1)), (.int (nI ((K_ill T i j t wo be we).2.1))), (.ref (x + 104 + 2)), (.ref (x + 104 + 3))]))) ∧ τ.2 (x + 104 + 1) = some (.inl (0, 8, (K_ill T i j t wo be we).2.2.1)) ∧ τ.2 (x + 104 + 2) = some (.inl (0, 256, (K_ill T i j t wo be we).2.2.2.1)) ∧ τ.2 (x + 104 + 3) = some (.inl (0, 256, (K_ill T i j t wo be we).2.2.2.2))) τ) = Q
  refine Ret.start pm_22 rfl ?_
  have fr : frm σ σ (x + 104) (x + 108) := frm.rf
  have hX := isX.frm hX0 fr (by omega)
  have hT := isT.frm hT0 fr (by omega)
  obtain ⟨t0, t1, ⟨fs, t2, t3⟩, ⟨fp, t4, t5⟩, t6, t7⟩ := id hT
  have hSi := t6 i (by omega)
  obtain ⟨h0, h1, h2, h3, h4, h5, h6', h7, h8, h9, h10⟩ := id hSi
  have hPj := t7 j (by omega)
  obtain ⟨p0, ⟨pf, p1, p2⟩, p3⟩ := id hPj
  refine Ev.aload_n rfl rfl ?_
  refine Ev.iload_n rfl rfl ?_
  refine Ev.iload_n rfl rfl ?_
  refine Ev.cV2 rfl rfl hX rfl rfl (by decide) ⟨(Nat.le_refl _), (Nat.le_refl _)⟩ (going_some hX hT hw ⟨rfl, hi, rfl, hj, hgo⟩) ?_
  refine Ev.astore rfl rfl rfl ?_
  refine Ev.aload_n rfl rfl ?_
  refine Ev.getf rfl rfl hX rfl ?_
  refine Ev.iload_n rfl rfl ?_
  refine Ev.cV1 rfl rfl t0 rfl rfl (by decide) ⟨(Nat.le_refl _), (Nat.le_refl _)⟩ (schoolAt_some hT hw1 hi) ?_
  refine Ev.astore rfl rfl rfl ?_
  refine Ev.aload rfl rfl ?_
  refine Ev.ifnull rfl ?_
  refine Ev.aload rfl rfl ?_
  refine Ev.ifnull rfl ?_
  refine Ev.aload rfl rfl ?_
  refine Ev.iload_n rfl rfl ?_
  refine Ev.cV1 rfl rfl h0 rfl rfl (by decide) ⟨(Nat.le_refl _), (Nat.le_refl _)⟩ (hasT_y hSi hn5 ht) ?_
  refine Ev.zne (tgt := 39) rfl (by decide) (fun c34 => ?_) (fun c34 => absurd c34 (by decide))
  refine Ev.aload rfl rfl ?_
  refine Ev.iload_n rfl rfl ?_
  refine Ev.cV1 rfl rfl p0 rfl rfl (by decide) ⟨(Nat.le_refl _), (Nat.le_refl _)⟩ (seatW_ok hPj h6 _) ?_
  refine Ev.istore rfl rfl rfl ?_
  refine Ev.aload rfl rfl ?_
  refine Ev.cV0 rfl rfl p0 rfl rfl (by decide) ⟨(Nat.le_refl _), (Nat.le_refl _)⟩ (seated_ok hPj hwP) ?_
  refine Ev.iload rfl rfl ?_
  refine Ev.iconst (v := (-1)) rfl (by decide) ?_
  refine Ev.ixor rfl ?_
  refine Ev.iand rfl ?_
  refine Ev.istore rfl rfl rfl ?_
  refine Ev.iload rfl rfl ?_
  refine Ev.cS1 rfl rfl rfl (by decide) ⟨(Nat.le_refl _), (Nat.le_refl _)⟩ (bc_ok _) ?_
  refine Ev.bipush (v := 6) rfl (by decide) ?_
  refine Ev.jle (tgt := 71) rfl (by decide) (fun c66 => ?_) (fun c66 => ?_)
  · skip
    refine Ev.aload_n rfl rfl ?_
    refine Ev.getf rfl rfl hX rfl ?_
    refine Ev.aload rfl rfl ?_
    refine Ev.aload rfl rfl ?_
    refine Ev.iload_n rfl rfl ?_
    refine Ev.iload rfl rfl ?_
    refine Ev.xV4 rfl rfl hsh rfl rfl (by decide) ⟨(Nat.le_refl _), (Nat.le_refl _)⟩ (without_ok hsh h_who h_best h_worth hSi hPj hwP hn16 hn5 hokL (by omega) (by omega) _ _) (fun τ1 f1 q1 => ?_)
    obtain ⟨hsh, h_who, h_best, h_worth⟩ := q1
    have fr := fr.step f1 (by omega) (by omega)
    have hX := isX.frm hX0 fr (by omega)
    have hT := isT.frm hT0 fr (by omega)
    obtain ⟨t0, t1, ⟨fs, t2, t3⟩, ⟨fp, t4, t5⟩, t6, t7⟩ := id hT
    have hSi := t6 i (by omega)
    obtain ⟨h0, h1, h2, h3, h4, h5, h6', h7, h8, h9, h10⟩ := id hSi
    have hPj := t7 j (by omega)
    obtain ⟨p0, ⟨pf, p1, p2⟩, p3⟩ := id hPj
    refine Ev.iret (ty := .int) rfl rfl rfl (Nat.le_refl _) (Nat.le_refl _) ?_
    have hK : (K_ill T i j t wo be we) = ((K_without (tS T i) (tP T j) (nI t) ((K_sits (tP T j)) &&& ((K_seat (tP T j) (nI t)) ^^^ (-1 : Int32))) wo be we).1, (K_without (tS T i) (tP T j) (nI t) ((K_sits (tP T j)) &&& ((K_seat (tP T j) (nI t)) ^^^ (-1 : Int32))) wo be we).2.1, (K_without (tS T i) (tP T j) (nI t) ((K_sits (tP T j)) &&& ((K_seat (tP T j) (nI t)) ^^^ (-1 : Int32))) wo be we).2.2.1, (K_without (tS T i) (tP T j) (nI t) ((K_sits (tP T j)) &&& ((K_seat (tP T j) (nI t)) ^^^ (-1 : Int32))) wo be we).2.2.2.1, (K_without (tS T i) (tP T j) (nI t) ((K_sits (tP T j)) &&& ((K_seat (tP T j) (nI t)) ^^^ (-1 : Int32))) wo be we).2.2.2.2) := by
      unfold K_ill
      rw [if_neg c66]
    rw [← hQ]
    dsimp only
    rw [hK]
    exact ⟨rfl, fr, hsh, h_who, h_best, h_worth⟩
  · skip
    refine Ev.iconst (v := (-1)) rfl (by decide) ?_
    refine Ev.iret (ty := .int) rfl rfl rfl (Nat.le_refl _) (Nat.le_refl _) ?_
    have hK : (K_ill T i j t wo be we) = ((-1 : Int32), n0, wo, be, we) := by
      unfold K_ill
      rw [if_pos c66]
    rw [← hQ]
    dsimp only
    rw [hK]
    exact ⟨rfl, fr, hsh, h_who, h_best, h_worth⟩
end
end
