/-! Printed by sym.py: sharing out (class). -/
noncomputable section
section
variable {Γ : ex_G} {σ : ex_S} {x q a p y : Nat} {S : Sch} {T : Tol} {P : Pln} {g A : Nat → Int32}
theorem vp_of {x : Int32} {n k : Nat} (h : x = nI k) (hk : k < n) (hn : n < 100 := by decide) : vp_in x n := by subst h; exact vp_in_nI hk (by omega)
theorem J_nat {s0 : Nat} {z : Int32} (h : J_sub s0 z) (hs : s0 < 2 ^ 31) (h0 : ¬ z < 0) : z = nI z.toNatClampNeg ∧ z.toNatClampNeg ≤ s0 := by
  rcases h with rfl | ⟨m, hm, rfl⟩
  · exact absurd (by decide) h0
  · rw [nI_clamp (by omega)]
    exact ⟨rfl, hm⟩
theorem and_nat {x w : Int32} {a : Nat} (h : x = nI a) (ha : a < 2 ^ 31) : x &&& w = nI (x &&& w).toNatClampNeg ∧ (x &&& w).toNatClampNeg ≤ a := by
  subst h
  have e : w = nI w.toBitVec.toNat := by
    apply Int32.toBitVec_inj.mp
    apply BitVec.eq_of_toNat_eq
    simp [nI]
  rw [e, and_nI (by omega) w.toBitVec.isLt]
  have h1 : a &&& w.toBitVec.toNat ≤ a := Nat.and_le_left
  rw [nI_clamp (by omega)]
  exact ⟨rfl, h1⟩
theorem pow8 {n : Nat} (h : n ≤ 8) : 2 ^ n ≤ 256 ∧ 1 ≤ 2 ^ n := ⟨Nat.pow_le_pow_right (by decide) h, Nat.one_le_two_pow⟩
theorem sub_next2 {s0 : Nat} {z : Int32} (hs : s0 < 2 ^ 31) (h : J_sub s0 z) (h0 : ¬ z < 0) : (z = 0 → J_sub s0 (-1) ∧ mu_sub (-1) < mu_sub z) ∧ (¬ z = 0 → J_sub s0 ((z - 1) &&& nI s0) ∧ mu_sub ((z - 1) &&& nI s0) < mu_sub z) ∧ J_sub s0 (z + -1) ∧ mu_sub (z + -1) < mu_sub z := by
  rcases h with rfl | ⟨m, hm, rfl⟩
  · exact absurd (by decide) h0
  · have step : ∀ q, m = q + 1 → nI m + -1 = nI q := fun q e => by rw [e]; exact pk_m1 q
    have mu0 : mu_sub (nI m) = m + 1 := by unfold mu_sub; rw [if_neg h0, nI_clamp (by omega)]
    have mun : mu_sub (-1) = 0 := by unfold mu_sub; rw [if_pos (by decide)]
    refine ⟨fun e => ⟨Or.inl rfl, by rw [mu0, mun]; omega⟩, fun e => ?_, ?_⟩
    · obtain ⟨q, rfl⟩ : ∃ q, m = q + 1 := ⟨m - 1, by
        have : m ≠ 0 := fun c => e (by rw [c]; rfl)
        omega⟩
      rw [mu0, nI_pred, and_nI (by omega) (by omega)]
      have h1 : q &&& s0 ≤ q := Nat.and_le_left
      refine ⟨Or.inr ⟨_, by omega, rfl⟩, ?_⟩
      unfold mu_sub
      rw [if_neg (nI_pos (by omega)), nI_clamp (by omega)]
      omega
    · by_cases e : m = 0
      · subst e
        rw [mu0, show nI 0 + -1 = (-1 : Int32) by decide, mun]
        exact ⟨Or.inl rfl, by omega⟩
      · obtain ⟨q, rfl⟩ : ∃ q, m = q + 1 := ⟨m - 1, by omega⟩
        rw [mu0, step q rfl]
        refine ⟨Or.inr ⟨q, by omega, rfl⟩, ?_⟩
        unfold mu_sub
        rw [if_neg (nI_pos (by omega)), nI_clamp (by omega)]
        omega
def F_begin_7 (w : Int32) (wo : Nat → Int32) : Nat → (Nat × (Nat → Int32)) → (Nat × (Nat → Int32)) ⊕ (Nat × (Nat → Int32)) := fun k z => if (nI z.1) < (8 : Int32) then (if ((w >>> ((nI k) &&& 31)) &&& (1 : Int32)) = (0 : Int32) then (.inl (z.1, z.2)) else (.inl (z.1 + 1, (upd z.2 z.1 (nI k))))) else (.inr (z.1, z.2))
def K_begin (w : Int32) (wo : Nat → Int32) : Nat × (Nat → Int32) := Sum.elim (fun (zx : Nat × (Nat → Int32)) => (zx.1, zx.2)) (fun (rx : Nat × (Nat → Int32)) => (rx.1, rx.2)) (fe (F_begin_7 w wo) (16) 0 (0, wo))
theorem begin_ok {n0 : Nat} {wo be we : Nat → Int32} (hsh : σ.2 (q) = some (.inr (.inr (7, [.ref (q + 1), .int (nI n0), .ref (q + 2), .ref (q + 3)])))) (h_who : σ.2 (q + 1) = some (.inl (0, 8, wo))) (h_best : σ.2 (q + 2) = some (.inl (0, 256, be))) (h_worth : σ.2 (q + 3) = some (.inl (0, 256, we))) (w : Int32) : RetX Γ m_Sharing_begin [(.ref q), (.int w)] σ q (q + 4) none (fun τ => τ.2 q = some (.inr (.inr (7, [(.ref (q + 1)), (.int (nI ((K_begin w wo).1))), (.ref (q + 2)), (.ref (q + 3))]))) ∧ τ.2 (q + 1) = some (.inl (0, 8, (K_begin w wo).2)) ∧ τ.2 (q + 2) = some (.inl (0, 256, be)) ∧ τ.2 (q + 3) = some (.inl (0, 256, we))) := by
  unfold RetX
  generalize hQ : (fun (r : Option Value) (τ : ex_S) => r = none ∧ frm σ τ q (q + 4) ∧ (fun τ : ex_S => τ.2 q = some (.inr (.inr (7, [(.ref (q + 1)), (.int (nI ((K_begin w wo).1))), (.ref (q + 2)), (.ref (q + 3))]))) ∧ τ.2 (q + 1) = some (.inl (0, 8, (K_begin w wo).2)) ∧ τ.2 (q + 2) = some (.inl (0, 256, be)) ∧ τ.2 (q + 3) = some (.inl (0, 256, we))) τ) = Q
  refine Ret.start pm_143 rfl ?_
  have fr : frm σ σ q (q + 4) := frm.rf
  refine Ev.aload_n rfl rfl ?_
  refine Ev.iconst (v := 0) rfl (by decide) ?_
  refine Ev.putE rfl rfl hsh rfl rfl rfl (Nat.le_of_ble_eq_true rfl) (fun τ1 f1 hsh => ?_)
  replace hsh : τ1.2 q = some (.inr (.inr (7, [(.ref (q + 1)), (.int (0 : Int32)), (.ref (q + 2)), (.ref (q + 3))]))) := hsh
  have h_who := frm.cell f1 h_who (by omega)
  have h_best := frm.cell f1 h_best (by omega)
  have h_worth := frm.cell f1 h_worth (by omega)
  have fr := fr.step f1 (by omega) (by omega)
  refine Ev.iconst (v := 0) rfl (by decide) ?_
  refine Ev.istore_n rfl rfl rfl ?_
  refine Ev.fg (L := [some (.ref q), some (.int w), some (.int (nI 0))]) ?_ (gs rfl (gs rfl (gs (congrArg Value.int (rfl : (0 : Int32) = nI 0).symm) gz)))
  refine lpe (fun (k : Nat) (z : Nat × (Nat → Int32)) => (z.1 ≤ 8) → ∀ τ' : ex_S, frm σ τ' q (q + 4) → τ'.2 q = some (.inr (.inr (7, [(.ref (q + 1)), (.int (nI z.1)), (.ref (q + 2)), (.ref (q + 3))]))) → τ'.2 (q + 1) = some (.inl (0, 8, z.2)) → τ'.2 (q + 2) = some (.inl (0, 256, be)) → τ'.2 (q + 3) = some (.inl (0, 256, we)) → Ev Γ 0 0 m_Sharing_begin 0 0 7 [some (.ref q), some (.int w), some (.int (nI k))] [] τ' Q) (fun (r : Nat × (Nat → Int32)) => ∀ τ' : ex_S, frm σ τ' q (q + 4) → τ'.2 q = some (.inr (.inr (7, [(.ref (q + 1)), (.int (nI r.1)), (.ref (q + 2)), (.ref (q + 3))]))) → τ'.2 (q + 1) = some (.inl (0, 8, r.2)) → τ'.2 (q + 2) = some (.inl (0, 256, be)) → τ'.2 (q + 3) = some (.inl (0, 256, we)) → Ev Γ 0 0 m_Sharing_begin 0 0 56 [none, none, none] [] τ' Q) (F_begin_7 w wo) (16) (fun k z hk hx he => ?_) (16) 0 (0, wo) (by omega) (fun zx hzx => ?_) (fun rx hrx => ?_) (by omega) τ1 fr hsh h_who h_best h_worth
  · skip
    intro hI
    intro τ' fr hsh h_who h_best h_worth
    refine Ev.iload_n rfl rfl ?_
    refine Ev.bipush (v := 16) rfl (by decide) ?_
    refine Ev.jge (tgt := 56) rfl (by decide) (fun c10 => absurd (nI_lt hk (by omega)) c10) (fun c10 => ?_)
    refine Ev.aload_n rfl rfl ?_
    refine Ev.getf rfl rfl hsh rfl ?_
    refine Ev.bipush (v := 8) rfl (by decide) ?_
    refine Ev.jge (tgt := 56) rfl (by decide) (fun c19 => ?_) (fun c19 => ?_)
    · skip
      have hF : (F_begin_7 w wo) k z = .inr (z.1, z.2) := by
        unfold F_begin_7
        rw [if_neg c19]
      exact (he _ hF τ' fr hsh h_who h_best h_worth).fg (gn (gn (gn gz)))
    · skip
      have hz8 := (nI_ltI (a := z.1) (b := 8) (by omega) (by decide)).mp c19
      refine Ev.iload_n rfl rfl ?_
      refine Ev.iload_n rfl rfl ?_
      refine Ev.ishr rfl ?_
      refine Ev.iconst (v := 1) rfl (by decide) ?_
      refine Ev.iand rfl ?_
      refine Ev.zeq (tgt := 50) rfl (by decide) (fun c27 => ?_) (fun c27 => ?_)
      · skip
        refine Ev.iinc (d := 1) rfl rfl rfl (by decide) rfl ?_
        refine Ev.goto (tgt := 7) rfl (by decide) ?_
        have hF : (F_begin_7 w wo) k z = .inl (z.1, z.2) := by
          unfold F_begin_7
          rw [if_pos c19]
          rw [if_pos c27]
        exact (hx _ hF (by show (z.1 ≤ 8); omega) τ' fr hsh h_who h_best h_worth).fg (gs rfl (gs rfl (gs (congrArg Value.int (show nI (k + 1) = (nI k) + (1 : Int32) from (nq_to (a := k + 1) (nq_add (a := k) (b := 1) rfl (rfl : (1 : Int32) = nI 1)) (by omega)).symm)) gz)))
      · skip
        refine Ev.aload_n rfl rfl ?_
        refine Ev.getf rfl rfl hsh rfl ?_
        refine Ev.aload_n rfl rfl ?_
        refine Ev.getf rfl rfl hsh rfl ?_
        refine Ev.iload_n rfl rfl ?_
        refine Ev.iastE (k := z.1) rfl h_who rfl ⟨(by omega), by decide⟩ (fun τ2 f1 h_who => ?_)
        have hsh := frm.cell f1 hsh (by omega)
        have h_best := frm.cell f1 h_best (by omega)
        have h_worth := frm.cell f1 h_worth (by omega)
        have fr := fr.step f1 (by omega) (by omega)
        refine Ev.aload_n rfl rfl ?_
        refine Ev.dup rfl rfl ?_
        refine Ev.getf rfl rfl hsh rfl ?_
        refine Ev.iconst (v := 1) rfl (by decide) ?_
        refine Ev.iadd rfl ?_
        rw [show (nI z.1) + (1 : Int32) = nI (z.1 + 1) from (nq_add (a := z.1) (b := 1) rfl (rfl : (1 : Int32) = nI 1))]
        refine Ev.putE rfl rfl hsh rfl rfl rfl (Nat.le_of_ble_eq_true rfl) (fun τ3 f1 hsh => ?_)
        replace hsh : τ3.2 q = some (.inr (.inr (7, [(.ref (q + 1)), (.int (nI (z.1 + 1))), (.ref (q + 2)), (.ref (q + 3))]))) := hsh
        have h_who := frm.cell f1 h_who (by omega)
        have h_best := frm.cell f1 h_best (by omega)
        have h_worth := frm.cell f1 h_worth (by omega)
        have fr := fr.step f1 (by omega) (by omega)
        refine Ev.iinc (d := 1) rfl rfl rfl (by decide) rfl ?_
        refine Ev.goto (tgt := 7) rfl (by decide) ?_
        have hF : (F_begin_7 w wo) k z = .inl (z.1 + 1, (upd z.2 z.1 (nI k))) := by
          unfold F_begin_7
          rw [if_pos c19]
          rw [if_neg c27]
        exact (hx _ hF (by show (z.1 + 1 ≤ 8); omega) τ3 fr hsh h_who h_best h_worth).fg (gs rfl (gs rfl (gs (congrArg Value.int (show nI (k + 1) = (nI k) + (1 : Int32) from (nq_to (a := k + 1) (nq_add (a := k) (b := 1) rfl (rfl : (1 : Int32) = nI 1)) (by omega)).symm)) gz)))
  · skip
    intro hI
    intro τ' fr hsh h_who h_best h_worth
    refine Ev.iload_n rfl rfl ?_
    refine Ev.bipush (v := 16) rfl (by decide) ?_
    refine Ev.jge (tgt := 56) rfl (by decide) (fun c10 => ?_) (fun c10 => absurd c10 (nI_nlt (Nat.le_refl _) (by omega)))
    refine Ev.ret rfl rfl (Nat.le_refl _) (Nat.le_refl _) ?_
    have hK : (K_begin w wo) = (zx.1, zx.2) := by
      unfold K_begin
      rw [hzx, Sum.elim_inl]
    rw [← hQ]
    dsimp only
    rw [hK]
    exact ⟨rfl, fr, hsh, h_who, h_best, h_worth⟩
  · skip
    intro τ' fr hsh h_who h_best h_worth
    refine Ev.ret rfl rfl (Nat.le_refl _) (Nat.le_refl _) ?_
    have hK : (K_begin w wo) = (rx.1, rx.2) := by
      unfold K_begin
      rw [hrx, Sum.elim_inr]
    rw [← hQ]
    dsimp only
    rw [hK]
    exact ⟨rfl, fr, hsh, h_who, h_best, h_worth⟩
theorem begin_le (w : Int32) (wo : Nat → Int32) : (K_begin w wo).1 ≤ 8 := by
  obtain ⟨a, b⟩ := fe_inv (F := F_begin_7 w wo) (fun _ z => z.1 ≤ 8) (fun r => r.1 ≤ 8) 16 0 (0, wo) (Nat.zero_le 8) (fun j z _ _ hz => by
    have hz : z.1 ≤ 8 := hz
    unfold F_begin_7
    by_cases c : nI z.1 < (8 : Int32)
    · have hz8 := (nI_ltI (a := z.1) (b := 8) (by omega) (by decide)).mp c
      rw [if_pos c]
      refine ⟨fun z' e => ?_, fun r e => ?_⟩
      · split at e
        · cases e; exact hz
        · cases e; show z.1 + 1 ≤ 8; omega
      · split at e <;> cases e
    · rw [if_neg c]
      refine ⟨fun z' e => ?_, fun r e => ?_⟩
      · cases e
      · cases e; exact hz)
  unfold K_begin
  rcases hf : fe (F_begin_7 w wo) 16 0 (0, wo) with z | r
  · rw [Sum.elim_inl]; exact a z hf
  · rw [Sum.elim_inr]; exact b r hf
end
end

