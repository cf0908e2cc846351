/-! Texts (reference): bytes, letters, words, the next token. -/
noncomputable section
/-- a byte as the reference reads it -/
def tbt (U : Nat → Nat) (p : Nat) : Int32 := if U p = 256 then -1 else nI (U p)
theorem tbt_eq {U : Nat → Nat} {p k : Nat} (hu : U p ≤ 256) (hk : k < 256) : tbt U p = nI k ↔ U p = k := by
  unfold tbt
  split
  · rename_i c
    refine ⟨fun e => absurd e.symm (nI_m1 (by omega)), fun e => by omega⟩
  · exact ⟨fun e => nI_injL (by omega) (by omega) e, fun e => by rw [e]⟩
theorem tbt_neg {U : Nat → Nat} {p : Nat} (hu : U p ≤ 256) : tbt U p < 0 ↔ U p = 256 := by
  unfold tbt
  split
  · rename_i c
    exact ⟨fun _ => c, fun _ => by decide⟩
  · rename_i c
    exact ⟨fun h => absurd h (nI_pos (by omega)), fun h => absurd h c⟩
theorem b01 {b : Bool} (h : ¬ (if b = true then (1 : Int32) else 0) = 0) : b = true := by
  cases b
  · exact absurd rfl h
  · rfl
theorem b00 {b : Bool} (h : (if b = true then (1 : Int32) else 0) = 0) : b = false := by
  cases b
  · rfl
  · exact absurd h (by decide)
theorem lc_iff {v x : Int64} {W C : Nat} (hv : v = Int64.ofNat W) (hx : x = Int64.ofNat C) (hW : W < 2 ^ 62) (hC : C < 2 ^ 62) : lg_cmp v x = 0 ↔ W = C := by
  have tI : ∀ k, k < 2 ^ 62 → (Int64.ofNat k).toInt = k := fun k hk => Int64.toInt_ofNat_of_lt (by omega)
  unfold lg_cmp
  by_cases c : v > x
  · rw [if_pos c]
    refine ⟨fun h => absurd h (by decide), fun h => ?_⟩
    rw [hv, hx, h] at c
    exact absurd c (Int64.lt_irrefl)
  · rw [if_neg c]
    by_cases d : v = x
    · rw [if_pos d]
      refine ⟨fun _ => ?_, fun _ => rfl⟩
      have e : (Int64.ofNat W).toInt = (Int64.ofNat C).toInt := by rw [← hv, ← hx, d]
      rw [tI W hW, tI C hC] at e
      omega
    · rw [if_neg d]
      refine ⟨fun h => absurd h (by decide), fun h => absurd (by rw [hv, hx, h]) d⟩
theorem wv_step {v : Int64} {W u : Nat} {b : Int32} (hv : v = Int64.ofNat W) (hb : b = nI u) (h1 : 97 ≤ u) (h2 : u ≤ 122) : (32 : Int64) * v + b.toInt64 - 96 = Int64.ofNat (32 * W + (u - 96)) := by
  subst hv
  have e : b.toInt64 = Int64.ofNat u := by
    subst hb
    have key : ∀ u, u < 256 → (nI u).toInt64 = Int64.ofNat u := by decide +kernel
    exact key u (by omega)
  have h96 : (96 : Int64) = Int64.ofNat 96 := rfl
  have h32 : (32 : Int64) = Int64.ofNat 32 := rfl
  rw [e, h96, h32, ← Int64.ofNat_mul, show 32 * W + (u - 96) = 32 * W + (u - 96) from rfl]
  have e2 : Int64.ofNat u = Int64.ofNat (u - 96) + Int64.ofNat 96 := by
    rw [← Int64.ofNat_add, show u - 96 + 96 = u by omega]
  rw [e2, Int64.ofNat_add, ← Int64.add_assoc, Int64.add_sub_cancel]
/-- the reference's numbers when its token is the one behind e -/
def crs (U : Nat → Nat) (n : Nat) (g : Nat → Int32) (e : Nat) : Prop := g 3 = nI (tE U n e) ∧ g 4 = nI (tS0 U n e) ∧ g 5 = nI (tK U n e) ∧ (tK U n e = 1 → g 6 = nI (tV U n e)) ∧ (tK U n e = 3 → g 7 = nI (tW U n e))
theorem crs_of {U : Nat → Nat} {n e a k b : Nat} {g : Nat → Int32} (hs : tS0 U n e = a) (hk : tK U n e = k) (hb : tE U n e = b) (h3 : g 3 = nI b) (h4 : g 4 = nI a) (h5 : g 5 = nI k) (h6 : k = 1 → g 6 = nI (tV U n e)) (h7 : k = 3 → g 7 = nI (tW U n e)) : crs U n g e := by
  subst hs; subst hk; subst hb
  exact ⟨h3, h4, h5, h6, h7⟩
section
variable {U : Nat → Nat} {n e a : Nat}
theorem tok_0 (hs : tS0 U n e = a) (h : U a = 256) : tK U n e = 0 ∧ tE U n e = a := by
  unfold tK tE
  rw [hs, if_pos h, if_pos h]
  exact ⟨rfl, rfl⟩
theorem tok_d (hs : tS0 U n e = a) (h : dgt (U a) = true) : tK U n e = (if tD U n e - a ≤ 3 then 1 else 4) ∧ tE U n e = tD U n e := by
  have h2 := dgt_iff.mp h
  unfold tK tE
  rw [hs, if_neg (show ¬ U a = 256 by omega), if_neg (show ¬ U a = 256 by omega), if_pos h, if_pos h]
  exact ⟨rfl, rfl⟩
theorem tok_l (hs : tS0 U n e = a) (h : ltr (U a) = true) : tK U n e = (if tW U n e = 99 then 4 else 3) ∧ tE U n e = tL U n e := by
  have h2 := ltr_iff.mp h
  have h3 : ¬ dgt (U a) = true := fun c => by have := dgt_iff.mp c; omega
  unfold tK tE
  rw [hs, if_neg (show ¬ U a = 256 by omega), if_neg (show ¬ U a = 256 by omega), if_neg h3, if_neg h3, if_pos h, if_pos h]
  exact ⟨rfl, rfl⟩
theorem tok_o (hs : tS0 U n e = a) (h0 : ¬ U a = 256) (h1 : dgt (U a) = false) (h2 : ltr (U a) = false) : tK U n e = (if U a = 59 then 2 else 4) ∧ tE U n e = a + 1 := by
  unfold tK tE
  rw [hs, if_neg h0, if_neg h0, h1, h2]
  exact ⟨rfl, rfl⟩
theorem tS0_eq (h : txt U n) (he : e ≤ n) (h1 : e ≤ a) (h2 : ∀ p, e ≤ p → p < a → blk1 (U p) = true) (h3 : blk1 (U a) = false) : tS0 U n e = a := skp_uniq h.b he h1 h2 h3
theorem tD_eq {b : Nat} (h : txt U n) (he : e ≤ n) (hs : tS0 U n e = a) (h1 : a ≤ b) (h2 : ∀ p, a ≤ p → p < b → dgt (U p) = true) (h3 : dgt (U b) = false) : tD U n e = b := by
  unfold tD
  rw [hs]
  exact skp_uniq h.d (by rw [← hs]; exact (tS0_le h he).2) h1 h2 h3
theorem tL_eq {b : Nat} (h : txt U n) (he : e ≤ n) (hs : tS0 U n e = a) (h1 : a ≤ b) (h2 : ∀ p, a ≤ p → p < b → ltr (U p) = true) (h3 : ltr (U b) = false) : tL U n e = b := by
  unfold tL
  rw [hs]
  exact skp_uniq h.l (by rw [← hs]; exact (tS0_le h he).2) h1 h2 h3
theorem up1 {P : Nat → Bool} {a b : Nat} (h : ∀ p, a ≤ p → p < b → P (U p) = true) (hb : P (U b) = true) : ∀ p, a ≤ p → p < b + 1 → P (U p) = true := fun p h1 h2 => by
  by_cases c : p = b
  · subst c; exact hb
  · exact h p h1 (by omega)
end
section
variable {Γ : ex_G} {σ : ex_S} {x q a p y : Nat} {S : Sch} {T : Tol} {P : Pln} {g A : Nat → Int32}
variable {U : Nat → Nat} {n e : Nat}
def K_m_islet (x : Int32) : Int32 := if x < (97 : Int32) then (0 : Int32) else (if (122 : Int32) < x then (0 : Int32) else (1 : Int32))
theorem m_letK_ok (x : Int32) : RetV Γ m_M_isLetter [(.int x)] σ (.int (K_m_islet x)) := by
  unfold RetV
  generalize hQ : (fun (r : Option Value) (σ' : ex_S) => r = some ((.int (K_m_islet x)) : Value) ∧ σ' = σ) = Q
  refine Ret.start pm_167 rfl ?_
  refine Ev.iload_n rfl rfl ?_
  refine Ev.bipush (v := 97) rfl (by decide) ?_
  refine Ev.jlt (tgt := 16) rfl (by decide) (fun c3 => ?_) (fun c3 => ?_)
  · skip
    refine Ev.iconst (v := 0) rfl (by decide) ?_
    refine Ev.iret (ty := .boolean) rfl rfl rfl (Nat.le_refl _) (Nat.le_refl _) ?_
    rw [← hQ]
    refine ⟨congrArg (fun v => some (Value.int v)) (Eq.symm ?_), rfl⟩
    unfold K_m_islet
    rw [if_pos c3]
  · skip
    refine Ev.iload_n rfl rfl ?_
    refine Ev.bipush (v := 122) rfl (by decide) ?_
    refine Ev.jgt (tgt := 16) rfl (by decide) (fun c9 => ?_) (fun c9 => ?_)
    · skip
      refine Ev.iconst (v := 0) rfl (by decide) ?_
      refine Ev.iret (ty := .boolean) rfl rfl rfl (Nat.le_refl _) (Nat.le_refl _) ?_
      rw [← hQ]
      refine ⟨congrArg (fun v => some (Value.int v)) (Eq.symm ?_), rfl⟩
      unfold K_m_islet
      rw [if_neg c3]
      rw [if_pos c9]
    · skip
      refine Ev.iconst (v := 1) rfl (by decide) ?_
      refine Ev.goto (tgt := 17) rfl (by decide) ?_
      refine Ev.iret (ty := .boolean) rfl rfl rfl (Nat.le_refl _) (Nat.le_refl _) ?_
      rw [← hQ]
      refine ⟨congrArg (fun v => some (Value.int v)) (Eq.symm ?_), rfl⟩
      unfold K_m_islet
      rw [if_neg c3]
      rw [if_neg c9]
theorem m_let_bt {p : Nat} (hu : U p ≤ 256) : RetV Γ m_M_isLetter [.int (tbt U p)] σ (.int (if ltr (U p) = true then 1 else 0)) := by
  have e : K_m_islet (tbt U p) = (if ltr (U p) = true then 1 else 0) := by
    unfold K_m_islet tbt
    by_cases c : U p = 256
    · rw [if_pos c, if_pos (show (-1 : Int32) < 97 by decide), if_neg (fun h => by have := ltr_iff.mp h; omega)]
    · rw [if_neg c]
      by_cases d : U p < 97
      · rw [if_pos (show nI (U p) < 97 from nI_lt (b := 97) d (by decide)), if_neg (fun h => by have := ltr_iff.mp h; omega)]
      · rw [if_neg (show ¬ nI (U p) < 97 from nI_nlt (a := U p) (b := 97) (by omega) (by omega))]
        by_cases f : 122 < U p
        · rw [if_pos (show (122 : Int32) < nI (U p) from nI_lt (a := 122) f (by omega)), if_neg (fun h => by have := ltr_iff.mp h; omega)]
        · rw [if_neg (show ¬ (122 : Int32) < nI (U p) from nI_nlt (a := 122) (by omega) (by decide)), if_pos (ltr_iff.mpr ⟨by omega, by omega⟩)]
  rw [← e]
  exact m_letK_ok _
def K_m_isdig (x : Int32) : Int32 := if x < (48 : Int32) then (0 : Int32) else (if (57 : Int32) < x then (0 : Int32) else (1 : Int32))
theorem m_digK_ok (x : Int32) : RetV Γ m_M_isDigit [(.int x)] σ (.int (K_m_isdig x)) := by
  unfold RetV
  generalize hQ : (fun (r : Option Value) (σ' : ex_S) => r = some ((.int (K_m_isdig x)) : Value) ∧ σ' = σ) = Q
  refine Ret.start pm_168 rfl ?_
  refine Ev.iload_n rfl rfl ?_
  refine Ev.bipush (v := 48) rfl (by decide) ?_
  refine Ev.jlt (tgt := 16) rfl (by decide) (fun c3 => ?_) (fun c3 => ?_)
  · skip
    refine Ev.iconst (v := 0) rfl (by decide) ?_
    refine Ev.iret (ty := .boolean) rfl rfl rfl (Nat.le_refl _) (Nat.le_refl _) ?_
    rw [← hQ]
    refine ⟨congrArg (fun v => some (Value.int v)) (Eq.symm ?_), rfl⟩
    unfold K_m_isdig
    rw [if_pos c3]
  · skip
    refine Ev.iload_n rfl rfl ?_
    refine Ev.bipush (v := 57) rfl (by decide) ?_
    refine Ev.jgt (tgt := 16) rfl (by decide) (fun c9 => ?_) (fun c9 => ?_)
    · skip
      refine Ev.iconst (v := 0) rfl (by decide) ?_
      refine Ev.iret (ty := .boolean) rfl rfl rfl (Nat.le_refl _) (Nat.le_refl _) ?_
      rw [← hQ]
      refine ⟨congrArg (fun v => some (Value.int v)) (Eq.symm ?_), rfl⟩
      unfold K_m_isdig
      rw [if_neg c3]
      rw [if_pos c9]
    · skip
      refine Ev.iconst (v := 1) rfl (by decide) ?_
      refine Ev.goto (tgt := 17) rfl (by decide) ?_
      refine Ev.iret (ty := .boolean) rfl rfl rfl (Nat.le_refl _) (Nat.le_refl _) ?_
      rw [← hQ]
      refine ⟨congrArg (fun v => some (Value.int v)) (Eq.symm ?_), rfl⟩
      unfold K_m_isdig
      rw [if_neg c3]
      rw [if_neg c9]
theorem m_dig_bt {p : Nat} (hu : U p ≤ 256) : RetV Γ m_M_isDigit [.int (tbt U p)] σ (.int (if dgt (U p) = true then 1 else 0)) := by
  have e : K_m_isdig (tbt U p) = (if dgt (U p) = true then 1 else 0) := by
    unfold K_m_isdig tbt
    by_cases c : U p = 256
    · rw [if_pos c, if_pos (show (-1 : Int32) < 48 by decide), if_neg (fun h => by have := dgt_iff.mp h; omega)]
    · rw [if_neg c]
      by_cases d : U p < 48
      · rw [if_pos (show nI (U p) < 48 from nI_lt (b := 48) d (by decide)), if_neg (fun h => by have := dgt_iff.mp h; omega)]
      · rw [if_neg (show ¬ nI (U p) < 48 from nI_nlt (a := U p) (b := 48) (by omega) (by omega))]
        by_cases f : 57 < U p
        · rw [if_pos (show (57 : Int32) < nI (U p) from nI_lt (a := 57) f (by omega)), if_neg (fun h => by have := dgt_iff.mp h; omega)]
        · rw [if_neg (show ¬ (57 : Int32) < nI (U p) from nI_nlt (a := 57) (by omega) (by decide)), if_pos (dgt_iff.mpr ⟨by omega, by omega⟩)]
  rw [← e]
  exact m_digK_ok _
theorem m_byteAt_ok (hM : isM σ y g A) (ht : txt U n) (hg2 : g 2 = nI n) (hA : ∀ p, p < n → A (10 + p) = nI (U p)) {p : Nat} (hp : p ≤ n) : RetV Γ m_M_byteAt [.ref y, .int (nI p)] σ (.int (tbt U p)) := by
  obtain ⟨m0, m1⟩ := id hM
  have hn6 := ht.1
  unfold RetV
  generalize hQ : ((fun (r : Option Value) (σ' : ex_S) => r = some (.int (tbt U p)) ∧ σ' = σ)) = Q
  refine Ret.start pm_166 rfl ?_
  refine Ev.iload_n rfl rfl ?_
  refine Ev.aload_n rfl rfl ?_
  refine Ev.getf rfl rfl m0 rfl ?_
  rw [hg2]
  refine Ev.jge (tgt := 20) rfl (by decide) (fun c5 => ?_) (fun c5 => ?_)
  · skip
    have hpn : n ≤ p := Nat.le_of_not_lt (fun h => c5 (nI_lt h (by omega)))
    rw [show tbt U p = -1 from if_pos (ht.2.2 p hpn)] at hQ
    refine Ev.iconst (v := (-1)) rfl (by decide) ?_
    refine Ev.iret (ty := .int) rfl rfl rfl (Nat.le_refl _) (Nat.le_refl _) ?_
    rw [← hQ]
    exact ⟨rfl, rfl⟩
  · skip
    have hpn := (nI_ltI (a := p) (b := n) (by omega) (by omega)).mp c5
    have hup := ht.2.1 p hpn
    rw [show tbt U p = nI (U p) from if_neg (by omega)] at hQ
    refine Ev.aload_n rfl rfl ?_
    refine Ev.getf rfl rfl m0 rfl ?_
    refine Ev.bipush (v := 10) rfl (by decide) ?_
    refine Ev.iload_n rfl rfl ?_
    refine Ev.iadd rfl ?_
    refine Ev.ialdN (k := 10 + p) rfl m1 (nq_add (a := 10) (b := p) rfl rfl) ⟨(by omega), by decide⟩ ?_
    rw [hA p hpn]
    refine Ev.goto (tgt := 21) rfl (by decide) ?_
    refine Ev.iret (ty := .int) rfl rfl rfl (Nat.le_refl _) (Nat.le_refl _) ?_
    rw [← hQ]
    exact ⟨rfl, rfl⟩
theorem m_four_ok (a b c d : Int32) : RetV Γ m_M_four [.int a, .int b, .int c, .int d] σ (.long (((a.toInt64 * 32 + b.toInt64) * 32 + c.toInt64) * 32 + d.toInt64)) := by
  unfold RetV
  generalize hQ : ((fun (r : Option Value) (σ' : ex_S) => r = some (.long (((a.toInt64 * 32 + b.toInt64) * 32 + c.toInt64) * 32 + d.toInt64)) ∧ σ' = σ)) = Q
  refine Ret.start pm_169 rfl ?_
  refine Ev.iload_n rfl rfl ?_
  refine Ev.i2l rfl ?_
  refine Ev.ldc2 (v := (32)) rfl rfl ?_
  refine Ev.lmul rfl ?_
  refine Ev.iload_n rfl rfl ?_
  refine Ev.i2l rfl ?_
  refine Ev.ladd rfl ?_
  refine Ev.ldc2 (v := (32)) rfl rfl ?_
  refine Ev.lmul rfl ?_
  refine Ev.iload_n rfl rfl ?_
  refine Ev.i2l rfl ?_
  refine Ev.ladd rfl ?_
  refine Ev.ldc2 (v := (32)) rfl rfl ?_
  refine Ev.lmul rfl ?_
  refine Ev.iload_n rfl rfl ?_
  refine Ev.i2l rfl ?_
  refine Ev.ladd rfl ?_
  refine Ev.lret rfl rfl (Nat.le_refl _) (Nat.le_refl _) ?_
  rw [← hQ]
  exact ⟨rfl, rfl⟩
set_option maxRecDepth 16384 in
theorem m_wordOf_ok {v : Int64} {W : Nat} (hv : v = Int64.ofNat W) (hW : W < 2 ^ 62) : RetV Γ m_M_wordOf [.long v] σ (.int (nI (wdc W))) := by
  unfold RetV
  generalize hQ : ((fun (r : Option Value) (σ' : ex_S) => r = some (.int (nI (wdc W))) ∧ σ' = σ)) = Q
  refine Ret.start pm_170 rfl ?_
  refine Ev.lload_n rfl rfl ?_
  refine Ev.bipush (v := 12) rfl (by decide) ?_
  refine Ev.iconst (v := 5) rfl (by decide) ?_
  refine Ev.iconst (v := 1) rfl (by decide) ?_
  refine Ev.bipush (v := 18) rfl (by decide) ?_
  refine Ev.cS4 rfl rfl rfl (by decide) ⟨(Nat.le_refl _), (Nat.le_refl _)⟩ (m_four_ok _ _ _ _) ?_
  refine Ev.ldc2 (v := (32768)) rfl rfl ?_
  refine Ev.lmul rfl ?_
  refine Ev.iconst (v := 0) rfl (by decide) ?_
  refine Ev.bipush (v := 14) rfl (by decide) ?_
  refine Ev.iconst (v := 5) rfl (by decide) ?_
  refine Ev.bipush (v := 18) rfl (by decide) ?_
  refine Ev.cS4 rfl rfl rfl (by decide) ⟨(Nat.le_refl _), (Nat.le_refl _)⟩ (m_four_ok _ _ _ _) ?_
  refine Ev.ladd rfl ?_
  refine Ev.lcmp rfl ?_
  refine Ev.zne (tgt := 30) rfl (by decide) (fun c25 => ?_) (fun c25 => ?_)
  · skip
    have n25 : ¬ W = 13054326962 := fun h => c25 ((lc_iff hv (C := 13054326962) (by decide) hW (by decide)).mpr h)
    refine Ev.lload_n rfl rfl ?_
    refine Ev.iconst (v := 3) rfl (by decide) ?_
    refine Ev.bipush (v := 15) rfl (by decide) ?_
    refine Ev.bipush (v := 21) rfl (by decide) ?_
    refine Ev.bipush (v := 16) rfl (by decide) ?_
    refine Ev.cS4 rfl rfl rfl (by decide) ⟨(Nat.le_refl _), (Nat.le_refl _)⟩ (m_four_ok _ _ _ _) ?_
    refine Ev.ldc2 (v := (1024)) rfl rfl ?_
    refine Ev.lmul rfl ?_
    refine Ev.ldc2 (v := (384)) rfl rfl ?_
    refine Ev.ladd rfl ?_
    refine Ev.ldc2 (v := (5)) rfl rfl ?_
    refine Ev.ladd rfl ?_
    refine Ev.lcmp rfl ?_
    refine Ev.zne (tgt := 59) rfl (by decide) (fun c54 => ?_) (fun c54 => ?_)
    · skip
      have n54 : ¬ W = 117096837 := fun h => c54 ((lc_iff hv (C := 117096837) (by decide) hW (by decide)).mpr h)
      refine Ev.lload_n rfl rfl ?_
      refine Ev.bipush (v := 16) rfl (by decide) ?_
      refine Ev.iconst (v := 5) rfl (by decide) ?_
      refine Ev.bipush (v := 18) rfl (by decide) ?_
      refine Ev.bipush (v := 8) rfl (by decide) ?_
      refine Ev.cS4 rfl rfl rfl (by decide) ⟨(Nat.le_refl _), (Nat.le_refl _)⟩ (m_four_ok _ _ _ _) ?_
      refine Ev.ldc2 (v := (32768)) rfl rfl ?_
      refine Ev.lmul rfl ?_
      refine Ev.iconst (v := 0) rfl (by decide) ?_
      refine Ev.iconst (v := 1) rfl (by decide) ?_
      refine Ev.bipush (v := 16) rfl (by decide) ?_
      refine Ev.bipush (v := 19) rfl (by decide) ?_
      refine Ev.cS4 rfl rfl rfl (by decide) ⟨(Nat.le_refl _), (Nat.le_refl _)⟩ (m_four_ok _ _ _ _) ?_
      refine Ev.ladd rfl ?_
      refine Ev.lcmp rfl ?_
      refine Ev.zne (tgt := 90) rfl (by decide) (fun c85 => ?_) (fun c85 => ?_)
      · skip
        have n85 : ¬ W = 17366779411 := fun h => c85 ((lc_iff hv (C := 17366779411) (by decide) hW (by decide)).mpr h)
        refine Ev.lload_n rfl rfl ?_
        refine Ev.bipush (v := 20) rfl (by decide) ?_
        refine Ev.iconst (v := 5) rfl (by decide) ?_
        refine Ev.iconst (v := 1) rfl (by decide) ?_
        refine Ev.iconst (v := 3) rfl (by decide) ?_
        refine Ev.cS4 rfl rfl rfl (by decide) ⟨(Nat.le_refl _), (Nat.le_refl _)⟩ (m_four_ok _ _ _ _) ?_
        refine Ev.ldc2 (v := (32768)) rfl rfl ?_
        refine Ev.lmul rfl ?_
        refine Ev.iconst (v := 0) rfl (by decide) ?_
        refine Ev.bipush (v := 8) rfl (by decide) ?_
        refine Ev.iconst (v := 5) rfl (by decide) ?_
        refine Ev.bipush (v := 18) rfl (by decide) ?_
        refine Ev.cS4 rfl rfl rfl (by decide) ⟨(Nat.le_refl _), (Nat.le_refl _)⟩ (m_four_ok _ _ _ _) ?_
        refine Ev.ladd rfl ?_
        refine Ev.lcmp rfl ?_
        refine Ev.zne (tgt := 119) rfl (by decide) (fun c114 => ?_) (fun c114 => ?_)
        · skip
          have n114 : ¬ W = 21643763890 := fun h => c114 ((lc_iff hv (C := 21643763890) (by decide) hW (by decide)).mpr h)
          refine Ev.lload_n rfl rfl ?_
          refine Ev.iconst (v := 1) rfl (by decide) ?_
          refine Ev.iconst (v := 2) rfl (by decide) ?_
          refine Ev.bipush (v := 15) rfl (by decide) ?_
          refine Ev.bipush (v := 22) rfl (by decide) ?_
          refine Ev.cS4 rfl rfl rfl (by decide) ⟨(Nat.le_refl _), (Nat.le_refl _)⟩ (m_four_ok _ _ _ _) ?_
          refine Ev.ldc2 (v := (32)) rfl rfl ?_
          refine Ev.lmul rfl ?_
          refine Ev.ldc2 (v := (5)) rfl rfl ?_
          refine Ev.ladd rfl ?_
          refine Ev.lcmp rfl ?_
          refine Ev.zne (tgt := 143) rfl (by decide) (fun c138 => ?_) (fun c138 => ?_)
          · skip
            have n138 : ¬ W = 1130181 := fun h => c138 ((lc_iff hv (C := 1130181) (by decide) hW (by decide)).mpr h)
            refine Ev.lload_n rfl rfl ?_
            refine Ev.iconst (v := 2) rfl (by decide) ?_
            refine Ev.iconst (v := 5) rfl (by decide) ?_
            refine Ev.bipush (v := 12) rfl (by decide) ?_
            refine Ev.bipush (v := 15) rfl (by decide) ?_
            refine Ev.cS4 rfl rfl rfl (by decide) ⟨(Nat.le_refl _), (Nat.le_refl _)⟩ (m_four_ok _ _ _ _) ?_
            refine Ev.ldc2 (v := (32)) rfl rfl ?_
            refine Ev.lmul rfl ?_
            refine Ev.ldc2 (v := (23)) rfl rfl ?_
            refine Ev.ladd rfl ?_
            refine Ev.lcmp rfl ?_
            refine Ev.zne (tgt := 168) rfl (by decide) (fun c162 => ?_) (fun c162 => ?_)
            · skip
              have n162 : ¬ W = 2273783 := fun h => c162 ((lc_iff hv (C := 2273783) (by decide) hW (by decide)).mpr h)
              refine Ev.lload_n rfl rfl ?_
              refine Ev.iconst (v := 3) rfl (by decide) ?_
              refine Ev.bipush (v := 18) rfl (by decide) ?_
              refine Ev.bipush (v := 15) rfl (by decide) ?_
              refine Ev.bipush (v := 23) rfl (by decide) ?_
              refine Ev.cS4 rfl rfl rfl (by decide) ⟨(Nat.le_refl _), (Nat.le_refl _)⟩ (m_four_ok _ _ _ _) ?_
              refine Ev.ldc2 (v := (32)) rfl rfl ?_
              refine Ev.lmul rfl ?_
              refine Ev.ldc2 (v := (4)) rfl rfl ?_
              refine Ev.ladd rfl ?_
              refine Ev.lcmp rfl ?_
              refine Ev.zne (tgt := 194) rfl (by decide) (fun c188 => ?_) (fun c188 => ?_)
              · skip
                have n188 : ¬ W = 3751652 := fun h => c188 ((lc_iff hv (C := 3751652) (by decide) hW (by decide)).mpr h)
                refine Ev.lload_n rfl rfl ?_
                refine Ev.bipush (v := 19) rfl (by decide) ?_
                refine Ev.bipush (v := 9) rfl (by decide) ?_
                refine Ev.bipush (v := 26) rfl (by decide) ?_
                refine Ev.iconst (v := 5) rfl (by decide) ?_
                refine Ev.cS4 rfl rfl rfl (by decide) ⟨(Nat.le_refl _), (Nat.le_refl _)⟩ (m_four_ok _ _ _ _) ?_
                refine Ev.lcmp rfl ?_
                refine Ev.zne (tgt := 212) rfl (by decide) (fun c206 => ?_) (fun c206 => ?_)
                · skip
                  have n206 : ¬ W = 632645 := fun h => c206 ((lc_iff hv (C := 632645) (by decide) hW (by decide)).mpr h)
                  refine Ev.lload_n rfl rfl ?_
                  refine Ev.bipush (v := 18) rfl (by decide) ?_
                  refine Ev.bipush (v := 15) rfl (by decide) ?_
                  refine Ev.bipush (v := 15) rfl (by decide) ?_
                  refine Ev.bipush (v := 13) rfl (by decide) ?_
                  refine Ev.cS4 rfl rfl rfl (by decide) ⟨(Nat.le_refl _), (Nat.le_refl _)⟩ (m_four_ok _ _ _ _) ?_
                  refine Ev.ldc2 (v := (32)) rfl rfl ?_
                  refine Ev.lmul rfl ?_
                  refine Ev.ldc2 (v := (19)) rfl rfl ?_
                  refine Ev.ladd rfl ?_
                  refine Ev.lcmp rfl ?_
                  refine Ev.zne (tgt := 239) rfl (by decide) (fun c233 => ?_) (fun c233 => ?_)
                  · skip
                    have n233 : ¬ W = 19381683 := fun h => c233 ((lc_iff hv (C := 19381683) (by decide) hW (by decide)).mpr h)
                    refine Ev.lload_n rfl rfl ?_
                    refine Ev.iconst (v := 3) rfl (by decide) ?_
                    refine Ev.bipush (v := 15) rfl (by decide) ?_
                    refine Ev.bipush (v := 19) rfl (by decide) ?_
                    refine Ev.bipush (v := 20) rfl (by decide) ?_
                    refine Ev.cS4 rfl rfl rfl (by decide) ⟨(Nat.le_refl _), (Nat.le_refl _)⟩ (m_four_ok _ _ _ _) ?_
                    refine Ev.lcmp rfl ?_
                    refine Ev.zne (tgt := 257) rfl (by decide) (fun c251 => ?_) (fun c251 => ?_)
                    · skip
                      have n251 : ¬ W = 114292 := fun h => c251 ((lc_iff hv (C := 114292) (by decide) hW (by decide)).mpr h)
                      refine Ev.lload_n rfl rfl ?_
                      refine Ev.iconst (v := 0) rfl (by decide) ?_
                      refine Ev.bipush (v := 6) rfl (by decide) ?_
                      refine Ev.iconst (v := 5) rfl (by decide) ?_
                      refine Ev.iconst (v := 5) rfl (by decide) ?_
                      refine Ev.cS4 rfl rfl rfl (by decide) ⟨(Nat.le_refl _), (Nat.le_refl _)⟩ (m_four_ok _ _ _ _) ?_
                      refine Ev.lcmp rfl ?_
                      refine Ev.zne (tgt := 273) rfl (by decide) (fun c267 => ?_) (fun c267 => ?_)
                      · skip
                        have n267 : ¬ W = 6309 := fun h => c267 ((lc_iff hv (C := 6309) (by decide) hW (by decide)).mpr h)
                        refine Ev.lload_n rfl rfl ?_
                        refine Ev.bipush (v := 23) rfl (by decide) ?_
                        refine Ev.iconst (v := 5) rfl (by decide) ?_
                        refine Ev.iconst (v := 5) rfl (by decide) ?_
                        refine Ev.bipush (v := 11) rfl (by decide) ?_
                        refine Ev.cS4 rfl rfl rfl (by decide) ⟨(Nat.le_refl _), (Nat.le_refl _)⟩ (m_four_ok _ _ _ _) ?_
                        refine Ev.ldc2 (v := (32)) rfl rfl ?_
                        refine Ev.lmul rfl ?_
                        refine Ev.ldc2 (v := (19)) rfl rfl ?_
                        refine Ev.ladd rfl ?_
                        refine Ev.lcmp rfl ?_
                        refine Ev.zne (tgt := 298) rfl (by decide) (fun c292 => ?_) (fun c292 => ?_)
                        · skip
                          have n292 : ¬ W = 24286579 := fun h => c292 ((lc_iff hv (C := 24286579) (by decide) hW (by decide)).mpr h)
                          refine Ev.lload_n rfl rfl ?_
                          refine Ev.bipush (v := 18) rfl (by decide) ?_
                          refine Ev.bipush (v := 9) rfl (by decide) ?_
                          refine Ev.bipush (v := 19) rfl (by decide) ?_
                          refine Ev.iconst (v := 5) rfl (by decide) ?_
                          refine Ev.cS4 rfl rfl rfl (by decide) ⟨(Nat.le_refl _), (Nat.le_refl _)⟩ (m_four_ok _ _ _ _) ?_
                          refine Ev.lcmp rfl ?_
                          refine Ev.zne (tgt := 316) rfl (by decide) (fun c310 => ?_) (fun c310 => ?_)
                          · skip
                            have n310 : ¬ W = 599653 := fun h => c310 ((lc_iff hv (C := 599653) (by decide) hW (by decide)).mpr h)
                            refine Ev.lload_n rfl rfl ?_
                            refine Ev.bipush (v := 20) rfl (by decide) ?_
                            refine Ev.iconst (v := 5) rfl (by decide) ?_
                            refine Ev.bipush (v := 12) rfl (by decide) ?_
                            refine Ev.bipush (v := 12) rfl (by decide) ?_
                            refine Ev.cS4 rfl rfl rfl (by decide) ⟨(Nat.le_refl _), (Nat.le_refl _)⟩ (m_four_ok _ _ _ _) ?_
                            refine Ev.lcmp rfl ?_
                            refine Ev.zne (tgt := 334) rfl (by decide) (fun c328 => ?_) (fun c328 => ?_)
                            · skip
                              have n328 : ¬ W = 660876 := fun h => c328 ((lc_iff hv (C := 660876) (by decide) hW (by decide)).mpr h)
                              refine Ev.lload_n rfl rfl ?_
                              refine Ev.bipush (v := 12) rfl (by decide) ?_
                              refine Ev.bipush (v := 15) rfl (by decide) ?_
                              refine Ev.bipush (v := 14) rfl (by decide) ?_
                              refine Ev.bipush (v := 7) rfl (by decide) ?_
                              refine Ev.cS4 rfl rfl rfl (by decide) ⟨(Nat.le_refl _), (Nat.le_refl _)⟩ (m_four_ok _ _ _ _) ?_
                              refine Ev.lcmp rfl ?_
                              refine Ev.zne (tgt := 353) rfl (by decide) (fun c347 => ?_) (fun c347 => ?_)
                              · skip
                                have n347 : ¬ W = 409031 := fun h => c347 ((lc_iff hv (C := 409031) (by decide) hW (by decide)).mpr h)
                                refine Ev.lload_n rfl rfl ?_
                                refine Ev.iconst (v := 5) rfl (by decide) ?_
                                refine Ev.bipush (v := 22) rfl (by decide) ?_
                                refine Ev.iconst (v := 5) rfl (by decide) ?_
                                refine Ev.bipush (v := 14) rfl (by decide) ?_
                                refine Ev.cS4 rfl rfl rfl (by decide) ⟨(Nat.le_refl _), (Nat.le_refl _)⟩ (m_four_ok _ _ _ _) ?_
                                refine Ev.lcmp rfl ?_
                                refine Ev.zne (tgt := 370) rfl (by decide) (fun c364 => ?_) (fun c364 => ?_)
                                · skip
                                  have n364 : ¬ W = 186542 := fun h => c364 ((lc_iff hv (C := 186542) (by decide) hW (by decide)).mpr h)
                                  refine Ev.lload_n rfl rfl ?_
                                  refine Ev.iconst (v := 2) rfl (by decide) ?_
                                  refine Ev.bipush (v := 18) rfl (by decide) ?_
                                  refine Ev.bipush (v := 15) rfl (by decide) ?_
                                  refine Ev.iconst (v := 1) rfl (by decide) ?_
                                  refine Ev.cS4 rfl rfl rfl (by decide) ⟨(Nat.le_refl _), (Nat.le_refl _)⟩ (m_four_ok _ _ _ _) ?_
                                  refine Ev.ldc2 (v := (32)) rfl rfl ?_
                                  refine Ev.lmul rfl ?_
                                  refine Ev.ldc2 (v := (4)) rfl rfl ?_
                                  refine Ev.ladd rfl ?_
                                  refine Ev.lcmp rfl ?_
                                  refine Ev.zne (tgt := 395) rfl (by decide) (fun c389 => ?_) (fun c389 => ?_)
                                  · skip
                                    have n389 : ¬ W = 2702372 := fun h => c389 ((lc_iff hv (C := 2702372) (by decide) hW (by decide)).mpr h)
                                    refine Ev.lload_n rfl rfl ?_
                                    refine Ev.bipush (v := 16) rfl (by decide) ?_
                                    refine Ev.iconst (v := 1) rfl (by decide) ?_
                                    refine Ev.bipush (v := 9) rfl (by decide) ?_
                                    refine Ev.bipush (v := 18) rfl (by decide) ?_
                                    refine Ev.cS4 rfl rfl rfl (by decide) ⟨(Nat.le_refl _), (Nat.le_refl _)⟩ (m_four_ok _ _ _ _) ?_
                                    refine Ev.ldc2 (v := (32)) rfl rfl ?_
                                    refine Ev.lmul rfl ?_
                                    refine Ev.ldc2 (v := (19)) rfl rfl ?_
                                    refine Ev.ladd rfl ?_
                                    refine Ev.lcmp rfl ?_
                                    refine Ev.zne (tgt := 421) rfl (by decide) (fun c415 => ?_) (fun c415 => ?_)
                                    · skip
                                      have n415 : ¬ W = 16819795 := fun h => c415 ((lc_iff hv (C := 16819795) (by decide) hW (by decide)).mpr h)
                                      refine Ev.lload_n rfl rfl ?_
                                      refine Ev.iconst (v := 0) rfl (by decide) ?_
                                      refine Ev.bipush (v := 20) rfl (by decide) ?_
                                      refine Ev.bipush (v := 23) rfl (by decide) ?_
                                      refine Ev.bipush (v := 15) rfl (by decide) ?_
                                      refine Ev.cS4 rfl rfl rfl (by decide) ⟨(Nat.le_refl _), (Nat.le_refl _)⟩ (m_four_ok _ _ _ _) ?_
                                      refine Ev.lcmp rfl ?_
                                      refine Ev.zne (tgt := 439) rfl (by decide) (fun c433 => ?_) (fun c433 => ?_)
                                      · skip
                                        have n433 : ¬ W = 21231 := fun h => c433 ((lc_iff hv (C := 21231) (by decide) hW (by decide)).mpr h)
                                        refine Ev.lload_n rfl rfl ?_
                                        refine Ev.bipush (v := 19) rfl (by decide) ?_
                                        refine Ev.bipush (v := 9) rfl (by decide) ?_
                                        refine Ev.bipush (v := 20) rfl (by decide) ?_
                                        refine Ev.bipush (v := 19) rfl (by decide) ?_
                                        refine Ev.cS4 rfl rfl rfl (by decide) ⟨(Nat.le_refl _), (Nat.le_refl _)⟩ (m_four_ok _ _ _ _) ?_
                                        refine Ev.lcmp rfl ?_
                                        refine Ev.zne (tgt := 460) rfl (by decide) (fun c452 => ?_) (fun c452 => ?_)
                                        · skip
                                          have n452 : ¬ W = 632467 := fun h => c452 ((lc_iff hv (C := 632467) (by decide) hW (by decide)).mpr h)
                                          rw [show wdc W = 99 from by
                                            unfold wdc
                                            rw [if_neg n25, if_neg n54, if_neg n85, if_neg n114, if_neg n138, if_neg n162, if_neg n188, if_neg n206, if_neg n233, if_neg n251, if_neg n267, if_neg n292, if_neg n310, if_neg n328, if_neg n347, if_neg n364, if_neg n389, if_neg n415, if_neg n433, if_neg n452]] at hQ
                                          refine Ev.bipush (v := 99) rfl (by decide) ?_
                                          refine Ev.iret (ty := .int) rfl rfl rfl (Nat.le_refl _) (Nat.le_refl _) ?_
                                          rw [← hQ]
                                          exact ⟨rfl, rfl⟩
                                        · skip
                                          have e452 := (lc_iff hv (C := 632467) (by decide) hW (by decide)).mp c452
                                          rw [show wdc W = 20 from (wdc_iff (by decide) (by decide)).mpr e452] at hQ
                                          refine Ev.bipush (v := 20) rfl (by decide) ?_
                                          refine Ev.goto (tgt := 462) rfl (by decide) ?_
                                          refine Ev.iret (ty := .int) rfl rfl rfl (Nat.le_refl _) (Nat.le_refl _) ?_
                                          rw [← hQ]
                                          exact ⟨rfl, rfl⟩
                                      · skip
                                        have e433 := (lc_iff hv (C := 21231) (by decide) hW (by decide)).mp c433
                                        rw [show wdc W = 19 from (wdc_iff (by decide) (by decide)).mpr e433] at hQ
                                        refine Ev.bipush (v := 19) rfl (by decide) ?_
                                        refine Ev.iret (ty := .int) rfl rfl rfl (Nat.le_refl _) (Nat.le_refl _) ?_
                                        rw [← hQ]
                                        exact ⟨rfl, rfl⟩
                                    · skip
                                      have e415 := (lc_iff hv (C := 16819795) (by decide) hW (by decide)).mp c415
                                      rw [show wdc W = 18 from (wdc_iff (by decide) (by decide)).mpr e415] at hQ
                                      refine Ev.bipush (v := 18) rfl (by decide) ?_
                                      refine Ev.iret (ty := .int) rfl rfl rfl (Nat.le_refl _) (Nat.le_refl _) ?_
                                      rw [← hQ]
                                      exact ⟨rfl, rfl⟩
                                  · skip
                                    have e389 := (lc_iff hv (C := 2702372) (by decide) hW (by decide)).mp c389
                                    rw [show wdc W = 17 from (wdc_iff (by decide) (by decide)).mpr e389] at hQ
                                    refine Ev.bipush (v := 17) rfl (by decide) ?_
                                    refine Ev.iret (ty := .int) rfl rfl rfl (Nat.le_refl _) (Nat.le_refl _) ?_
                                    rw [← hQ]
                                    exact ⟨rfl, rfl⟩
                                · skip
                                  have e364 := (lc_iff hv (C := 186542) (by decide) hW (by decide)).mp c364
                                  rw [show wdc W = 16 from (wdc_iff (by decide) (by decide)).mpr e364] at hQ
                                  refine Ev.bipush (v := 16) rfl (by decide) ?_
                                  refine Ev.iret (ty := .int) rfl rfl rfl (Nat.le_refl _) (Nat.le_refl _) ?_
                                  rw [← hQ]
                                  exact ⟨rfl, rfl⟩
                              · skip
                                have e347 := (lc_iff hv (C := 409031) (by decide) hW (by decide)).mp c347
                                rw [show wdc W = 15 from (wdc_iff (by decide) (by decide)).mpr e347] at hQ
                                refine Ev.bipush (v := 15) rfl (by decide) ?_
                                refine Ev.iret (ty := .int) rfl rfl rfl (Nat.le_refl _) (Nat.le_refl _) ?_
                                rw [← hQ]
                                exact ⟨rfl, rfl⟩
                            · skip
                              have e328 := (lc_iff hv (C := 660876) (by decide) hW (by decide)).mp c328
                              rw [show wdc W = 14 from (wdc_iff (by decide) (by decide)).mpr e328] at hQ
                              refine Ev.bipush (v := 14) rfl (by decide) ?_
                              refine Ev.iret (ty := .int) rfl rfl rfl (Nat.le_refl _) (Nat.le_refl _) ?_
                              rw [← hQ]
                              exact ⟨rfl, rfl⟩
                          · skip
                            have e310 := (lc_iff hv (C := 599653) (by decide) hW (by decide)).mp c310
                            rw [show wdc W = 13 from (wdc_iff (by decide) (by decide)).mpr e310] at hQ
                            refine Ev.bipush (v := 13) rfl (by decide) ?_
                            refine Ev.iret (ty := .int) rfl rfl rfl (Nat.le_refl _) (Nat.le_refl _) ?_
                            rw [← hQ]
                            exact ⟨rfl, rfl⟩
                        · skip
                          have e292 := (lc_iff hv (C := 24286579) (by decide) hW (by decide)).mp c292
                          rw [show wdc W = 12 from (wdc_iff (by decide) (by decide)).mpr e292] at hQ
                          refine Ev.bipush (v := 12) rfl (by decide) ?_
                          refine Ev.iret (ty := .int) rfl rfl rfl (Nat.le_refl _) (Nat.le_refl _) ?_
                          rw [← hQ]
                          exact ⟨rfl, rfl⟩
                      · skip
                        have e267 := (lc_iff hv (C := 6309) (by decide) hW (by decide)).mp c267
                        rw [show wdc W = 11 from (wdc_iff (by decide) (by decide)).mpr e267] at hQ
                        refine Ev.bipush (v := 11) rfl (by decide) ?_
                        refine Ev.iret (ty := .int) rfl rfl rfl (Nat.le_refl _) (Nat.le_refl _) ?_
                        rw [← hQ]
                        exact ⟨rfl, rfl⟩
                    · skip
                      have e251 := (lc_iff hv (C := 114292) (by decide) hW (by decide)).mp c251
                      rw [show wdc W = 10 from (wdc_iff (by decide) (by decide)).mpr e251] at hQ
                      refine Ev.bipush (v := 10) rfl (by decide) ?_
                      refine Ev.iret (ty := .int) rfl rfl rfl (Nat.le_refl _) (Nat.le_refl _) ?_
                      rw [← hQ]
                      exact ⟨rfl, rfl⟩
                  · skip
                    have e233 := (lc_iff hv (C := 19381683) (by decide) hW (by decide)).mp c233
                    rw [show wdc W = 9 from (wdc_iff (by decide) (by decide)).mpr e233] at hQ
                    refine Ev.bipush (v := 9) rfl (by decide) ?_
                    refine Ev.iret (ty := .int) rfl rfl rfl (Nat.le_refl _) (Nat.le_refl _) ?_
                    rw [← hQ]
                    exact ⟨rfl, rfl⟩
                · skip
                  have e206 := (lc_iff hv (C := 632645) (by decide) hW (by decide)).mp c206
                  rw [show wdc W = 8 from (wdc_iff (by decide) (by decide)).mpr e206] at hQ
                  refine Ev.bipush (v := 8) rfl (by decide) ?_
                  refine Ev.iret (ty := .int) rfl rfl rfl (Nat.le_refl _) (Nat.le_refl _) ?_
                  rw [← hQ]
                  exact ⟨rfl, rfl⟩
              · skip
                have e188 := (lc_iff hv (C := 3751652) (by decide) hW (by decide)).mp c188
                rw [show wdc W = 7 from (wdc_iff (by decide) (by decide)).mpr e188] at hQ
                refine Ev.bipush (v := 7) rfl (by decide) ?_
                refine Ev.iret (ty := .int) rfl rfl rfl (Nat.le_refl _) (Nat.le_refl _) ?_
                rw [← hQ]
                exact ⟨rfl, rfl⟩
            · skip
              have e162 := (lc_iff hv (C := 2273783) (by decide) hW (by decide)).mp c162
              rw [show wdc W = 6 from (wdc_iff (by decide) (by decide)).mpr e162] at hQ
              refine Ev.bipush (v := 6) rfl (by decide) ?_
              refine Ev.iret (ty := .int) rfl rfl rfl (Nat.le_refl _) (Nat.le_refl _) ?_
              rw [← hQ]
              exact ⟨rfl, rfl⟩
          · skip
            have e138 := (lc_iff hv (C := 1130181) (by decide) hW (by decide)).mp c138
            rw [show wdc W = 5 from (wdc_iff (by decide) (by decide)).mpr e138] at hQ
            refine Ev.iconst (v := 5) rfl (by decide) ?_
            refine Ev.iret (ty := .int) rfl rfl rfl (Nat.le_refl _) (Nat.le_refl _) ?_
            rw [← hQ]
            exact ⟨rfl, rfl⟩
        · skip
          have e114 := (lc_iff hv (C := 21643763890) (by decide) hW (by decide)).mp c114
          rw [show wdc W = 4 from (wdc_iff (by decide) (by decide)).mpr e114] at hQ
          refine Ev.iconst (v := 4) rfl (by decide) ?_
          refine Ev.iret (ty := .int) rfl rfl rfl (Nat.le_refl _) (Nat.le_refl _) ?_
          rw [← hQ]
          exact ⟨rfl, rfl⟩
      · skip
        have e85 := (lc_iff hv (C := 17366779411) (by decide) hW (by decide)).mp c85
        rw [show wdc W = 3 from (wdc_iff (by decide) (by decide)).mpr e85] at hQ
        refine Ev.iconst (v := 3) rfl (by decide) ?_
        refine Ev.iret (ty := .int) rfl rfl rfl (Nat.le_refl _) (Nat.le_refl _) ?_
        rw [← hQ]
        exact ⟨rfl, rfl⟩
    · skip
      have e54 := (lc_iff hv (C := 117096837) (by decide) hW (by decide)).mp c54
      rw [show wdc W = 2 from (wdc_iff (by decide) (by decide)).mpr e54] at hQ
      refine Ev.iconst (v := 2) rfl (by decide) ?_
      refine Ev.iret (ty := .int) rfl rfl rfl (Nat.le_refl _) (Nat.le_refl _) ?_
      rw [← hQ]
      exact ⟨rfl, rfl⟩
  · skip
    have e25 := (lc_iff hv (C := 13054326962) (by decide) hW (by decide)).mp c25
    rw [show wdc W = 1 from (wdc_iff (by decide) (by decide)).mpr e25] at hQ
    refine Ev.iconst (v := 1) rfl (by decide) ?_
    refine Ev.iret (ty := .int) rfl rfl rfl (Nat.le_refl _) (Nat.le_refl _) ?_
    rw [← hQ]
    exact ⟨rfl, rfl⟩
theorem nvl_up (U : Nat → Nat) (s k : Nat) : nvl U s (k + 1) = 10 * nvl U s k + (U (s + k) - 48) := rfl
theorem m_adv_ok (hM : isM σ y g A) (ht : txt U n) (hg2 : g 2 = nI n) (hA : ∀ p, p < n → A (10 + p) = nI (U p)) (he : e ≤ n) (hg3 : g 3 = nI e) : RetX Γ m_M_advance [.ref y] σ y (y + 1) none (fun τ => ∃ g1 : Nat → Int32, τ.2 y = some (.inr (.inr (10, mo y g1))) ∧ crs U n g1 e ∧ ∀ i, i < 3 ∨ 7 < i → g1 i = g i) := by
  obtain ⟨m0, m10⟩ := id hM
  have hn6 := ht.1
  unfold RetX
  generalize hQ : ((fun (r : Option Value) (τ : ex_S) => r = none ∧ frm σ τ y (y + 1) ∧ (fun τ : ex_S => ∃ g1 : Nat → Int32, τ.2 y = some (.inr (.inr (10, mo y g1))) ∧ crs U n g1 e ∧ ∀ i, i < 3 ∨ 7 < i → g1 i = g i) τ)) = Q
  refine Ret.start pm_171 rfl ?_
  have fr : frm σ σ y (y + 1) := frm.rf
  have m1 := frm.cell fr m10 (by omega)
  have hM : isM _ y g A := ⟨m0, m1⟩
  have hl0 : ∀ (m0 : Nat) (g0 : (Nat → Int32)) (a : Nat), (g0 3 = nI a ∧ (e ≤ a ∧ a ≤ n) ∧ (∀ p, e ≤ p → p < a → blk1 (U p) = true) ∧ ∀ i, i < 3 ∨ 3 < i → g0 i = g i) → (n - a) < m0 → ∀ τ0 : ex_S, frm σ τ0 y (y + 1) → τ0.2 y = some (.inr (.inr (10, mo y g0))) → Ev Γ 0 0 m_M_advance 0 0 0 [some (.ref y), none, none, none] [] τ0 Q := by
    intro m0
    induction m0 with
    | zero => intro g0 a _ hm; exact absurd hm (Nat.not_lt_zero _)
    | succ m0 ih0 =>
      intro g0 a hJ0 hm0
      intro τ0 fr m0
      have m1 := frm.cell fr m10 (by omega)
      have hM : isM _ y g0 A := ⟨m0, m1⟩
      obtain ⟨hg3, hea, hbl, hk0⟩ := hJ0
      have h02 : g0 2 = nI n := (hk0 2 (by omega)).trans hg2
      refine Ev.aload_n rfl rfl ?_
      refine Ev.aload_n rfl rfl ?_
      refine Ev.getf rfl rfl m0 rfl ?_
      rw [hg3]
      refine Ev.cV1 rfl rfl m0 rfl rfl (by decide) ⟨(Nat.le_refl _), (Nat.le_refl _)⟩ (m_byteAt_ok hM (g := g0) ht (show g0 2 = nI n from h02) hA (by omega)) ?_
      refine Ev.bipush (v := 10) rfl (by decide) ?_
      refine Ev.jeq (tgt := 26) rfl (by decide) (fun c10 => ?_) (fun c10 => ?_)
      · skip
        have hbk : blk1 (U a) = true := blk_iff.mpr (by first | exact Or.inr ((tbt_eq (k := 10) (ht.le a) (by decide)).mp c10) | exact Or.inl ((tbt_eq (k := 32) (ht.le a) (by decide)).mp c23))
        have han := ht.at hea.2 (fun h => by rw [h] at hbk; exact absurd hbk (by decide))
        refine Ev.aload_n rfl rfl ?_
        refine Ev.dup rfl rfl ?_
        refine Ev.getf rfl rfl m0 rfl ?_
        rw [hg3]
        refine Ev.iconst (v := 1) rfl (by decide) ?_
        refine Ev.iadd rfl ?_
        rw [show (nI a) + (1 : Int32) = nI (a + 1) from (nq_add (a := a) (b := 1) rfl (rfl : (1 : Int32) = nI 1))]
        refine Ev.putE rfl rfl m0 rfl rfl rfl (Nat.le_of_ble_eq_true rfl) (fun τ1 f1 q1 => ?_)
        have m0 : τ1.2 y = some (.inr (.inr (10, mo y (upd g0 3 (nI (a + 1)))))) := q1
        have fr := fr.step f1 (by omega) (by omega)
        have m1 := frm.cell fr m10 (by omega)
        have hM : isM _ y (upd g0 3 (nI (a + 1))) A := ⟨m0, m1⟩
        refine Ev.goto (tgt := 0) rfl (by decide) ?_
        exact (ih0 (upd g0 3 (nI (a + 1))) (a + 1) (⟨rfl, ⟨by omega, by omega⟩, up1 hbl hbk, fun i hi => (pk_un (by omega)).trans (hk0 i hi)⟩) (by omega) τ1 fr m0).fg (gs rfl (gn (gn (gn gz))))
      · skip
        refine Ev.aload_n rfl rfl ?_
        refine Ev.aload_n rfl rfl ?_
        refine Ev.getf rfl rfl m0 rfl ?_
        rw [hg3]
        refine Ev.cV1 rfl rfl m0 rfl rfl (by decide) ⟨(Nat.le_refl _), (Nat.le_refl _)⟩ (m_byteAt_ok hM (g := g0) ht (show g0 2 = nI n from h02) hA (by omega)) ?_
        refine Ev.bipush (v := 32) rfl (by decide) ?_
        refine Ev.jne (tgt := 39) rfl (by decide) (fun c23 => ?_) (fun c23 => ?_)
        · skip
          have hbk : blk1 (U a) = false := by
            cases hx : blk1 (U a)
            · rfl
            · rcases blk_iff.mp hx with q | q
              · exact absurd ((tbt_eq (k := 32) (ht.le a) (by decide)).mpr q) c23
              · exact absurd ((tbt_eq (k := 10) (ht.le a) (by decide)).mpr q) c10
          have hs : tS0 U n e = a := tS0_eq ht he hea.1 hbl hbk
          refine Ev.aload_n rfl rfl ?_
          refine Ev.aload_n rfl rfl ?_
          refine Ev.getf rfl rfl m0 rfl ?_
          rw [hg3]
          refine Ev.putE rfl rfl m0 rfl rfl rfl (Nat.le_of_ble_eq_true rfl) (fun τ2 f1 q1 => ?_)
          have m0 : τ2.2 y = some (.inr (.inr (10, mo y (upd g0 4 (nI a))))) := q1
          have fr := fr.step f1 (by omega) (by omega)
          have m1 := frm.cell fr m10 (by omega)
          have hM : isM _ y (upd g0 4 (nI a)) A := ⟨m0, m1⟩
          refine Ev.aload_n rfl rfl ?_
          refine Ev.aload_n rfl rfl ?_
          refine Ev.getf rfl rfl m0 rfl ?_
          rw [show (upd g0 4 (nI a)) 3 = g0 3 from rfl]
          rw [hg3]
          refine Ev.cV1 rfl rfl m0 rfl rfl (by decide) ⟨(Nat.le_refl _), (Nat.le_refl _)⟩ (m_byteAt_ok hM (g := (upd g0 4 (nI a))) ht (show (upd g0 4 (nI a)) 2 = nI n from h02) hA (by omega)) ?_
          refine Ev.istore_n rfl rfl rfl ?_
          refine Ev.iload_n rfl rfl ?_
          refine Ev.zge (tgt := 68) rfl (by decide) (fun c57 => ?_) (fun c57 => ?_)
          · skip
            have hu : ¬ U a = 256 := fun h => c57 ((tbt_neg (ht.le a)).mpr h)
            have han := ht.at hea.2 hu
            refine Ev.iload_n rfl rfl ?_
            refine Ev.cS1 rfl rfl rfl (by decide) ⟨(Nat.le_refl _), (Nat.le_refl _)⟩ (m_let_bt (ht.le _)) ?_
            refine Ev.zeq (tgt := 186) rfl (by decide) (fun c72 => ?_) (fun c72 => ?_)
            · skip
              have hlt := b00 c72
              refine Ev.iload_n rfl rfl ?_
              refine Ev.cS1 rfl rfl rfl (by decide) ⟨(Nat.le_refl _), (Nat.le_refl _)⟩ (m_dig_bt (ht.le _)) ?_
              refine Ev.zeq (tgt := 286) rfl (by decide) (fun c190 => ?_) (fun c190 => ?_)
              · skip
                have hdg := b00 c190
                have htk := tok_o hs hu hdg hlt
                refine Ev.aload_n rfl rfl ?_
                refine Ev.dup rfl rfl ?_
                refine Ev.getf rfl rfl m0 rfl ?_
                rw [show (upd g0 4 (nI a)) 3 = g0 3 from rfl]
                rw [hg3]
                refine Ev.iconst (v := 1) rfl (by decide) ?_
                refine Ev.iadd rfl ?_
                rw [show (nI a) + (1 : Int32) = nI (a + 1) from (nq_add (a := a) (b := 1) rfl (rfl : (1 : Int32) = nI 1))]
                refine Ev.putE rfl rfl m0 rfl rfl rfl (Nat.le_of_ble_eq_true rfl) (fun τ3 f1 q1 => ?_)
                have m0 : τ3.2 y = some (.inr (.inr (10, mo y (upd (upd g0 4 (nI a)) 3 (nI (a + 1)))))) := q1
                have fr := fr.step f1 (by omega) (by omega)
                have m1 := frm.cell fr m10 (by omega)
                have hM : isM _ y (upd (upd g0 4 (nI a)) 3 (nI (a + 1))) A := ⟨m0, m1⟩
                refine Ev.aload_n rfl rfl ?_
                refine Ev.iload_n rfl rfl ?_
                refine Ev.bipush (v := 59) rfl (by decide) ?_
                refine Ev.jne (tgt := 307) rfl (by decide) (fun c300 => ?_) (fun c300 => ?_)
                · skip
                  have h59 : ¬ U a = 59 := fun h => c300 ((tbt_eq (k := 59) (ht.le a) (by decide)).mpr h)
                  refine Ev.iconst (v := 4) rfl (by decide) ?_
                  refine Ev.putE rfl rfl m0 rfl rfl rfl (Nat.le_of_ble_eq_true rfl) (fun τ4 f1 q1 => ?_)
                  have m0 : τ4.2 y = some (.inr (.inr (10, mo y (upd (upd (upd g0 4 (nI a)) 3 (nI (a + 1))) 5 (4 : Int32))))) := q1
                  have fr := fr.step f1 (by omega) (by omega)
                  have m1 := frm.cell fr m10 (by omega)
                  have hM : isM _ y (upd (upd (upd g0 4 (nI a)) 3 (nI (a + 1))) 5 (4 : Int32)) A := ⟨m0, m1⟩
                  refine Ev.ret rfl rfl (Nat.le_refl _) (Nat.le_refl _) ?_
                  rw [← hQ]
                  refine ⟨rfl, fr, (upd (upd (upd g0 4 (nI a)) 3 (nI (a + 1))) 5 (4 : Int32)), m0, ?_, fun i hi => (pk_un (by omega)).trans ((pk_un (by omega)).trans ((pk_un (by omega)).trans (hk0 i (by omega))))⟩
                  exact crs_of hs (htk.1.trans (if_neg h59)) htk.2 rfl rfl rfl (fun h => nomatch h) (fun h => nomatch h)
                · skip
                  have h59 := (tbt_eq (k := 59) (ht.le a) (by decide)).mp c300
                  refine Ev.iconst (v := 2) rfl (by decide) ?_
                  refine Ev.goto (tgt := 308) rfl (by decide) ?_
                  refine Ev.putE rfl rfl m0 rfl rfl rfl (Nat.le_of_ble_eq_true rfl) (fun τ5 f1 q1 => ?_)
                  have m0 : τ5.2 y = some (.inr (.inr (10, mo y (upd (upd (upd g0 4 (nI a)) 3 (nI (a + 1))) 5 (2 : Int32))))) := q1
                  have fr := fr.step f1 (by omega) (by omega)
                  have m1 := frm.cell fr m10 (by omega)
                  have hM : isM _ y (upd (upd (upd g0 4 (nI a)) 3 (nI (a + 1))) 5 (2 : Int32)) A := ⟨m0, m1⟩
                  refine Ev.ret rfl rfl (Nat.le_refl _) (Nat.le_refl _) ?_
                  rw [← hQ]
                  refine ⟨rfl, fr, (upd (upd (upd g0 4 (nI a)) 3 (nI (a + 1))) 5 (2 : Int32)), m0, ?_, fun i hi => (pk_un (by omega)).trans ((pk_un (by omega)).trans ((pk_un (by omega)).trans (hk0 i (by omega))))⟩
                  exact crs_of hs (htk.1.trans (if_pos h59)) htk.2 rfl rfl rfl (fun h => nomatch h) (fun h => nomatch h)
              · skip
                have hdg := b01 c190
                have htk := tok_d hs hdg
                refine Ev.aload_n rfl rfl ?_
                refine Ev.iconst (v := 0) rfl (by decide) ?_
                refine Ev.putE rfl rfl m0 rfl rfl rfl (Nat.le_of_ble_eq_true rfl) (fun τ6 f1 q1 => ?_)
                have m0 : τ6.2 y = some (.inr (.inr (10, mo y (upd (upd g0 4 (nI a)) 6 (0 : Int32))))) := q1
                have fr := fr.step f1 (by omega) (by omega)
                have m1 := frm.cell fr m10 (by omega)
                have hM : isM _ y (upd (upd g0 4 (nI a)) 6 (0 : Int32)) A := ⟨m0, m1⟩
                have hl198 : ∀ (m198 : Nat) (gd : (Nat → Int32)) (d : Nat), (gd 3 = nI d ∧ gd 4 = nI a ∧ gd 6 = nI (nvl U a (min (d - a) 3)) ∧ (a ≤ d ∧ d ≤ n) ∧ (∀ p, a ≤ p → p < d → dgt (U p) = true) ∧ ∀ i, i < 3 ∨ 7 < i → gd i = g i) → (n - d) < m198 → ∀ τ198 : ex_S, frm σ τ198 y (y + 1) → τ198.2 y = some (.inr (.inr (10, mo y gd))) → Ev Γ 0 0 m_M_advance 0 0 198 [some (.ref y), none, none, none] [] τ198 Q := by
                  intro m198
                  induction m198 with
                  | zero => intro gd d _ hm; exact absurd hm (Nat.not_lt_zero _)
                  | succ m198 ih198 =>
                    intro gd d hJ198 hm198
                    intro τ198 fr m0
                    have m1 := frm.cell fr m10 (by omega)
                    have hM : isM _ y gd A := ⟨m0, m1⟩
                    obtain ⟨hd3, hd4, hd6, had, hdr, hkd⟩ := hJ198
                    have hd2 : gd 2 = nI n := (hkd 2 (by omega)).trans hg2
                    refine Ev.aload_n rfl rfl ?_
                    refine Ev.aload_n rfl rfl ?_
                    refine Ev.getf rfl rfl m0 rfl ?_
                    rw [hd3]
                    refine Ev.cV1 rfl rfl m0 rfl rfl (by decide) ⟨(Nat.le_refl _), (Nat.le_refl _)⟩ (m_byteAt_ok hM (g := gd) ht (show gd 2 = nI n from hd2) hA (by omega)) ?_
                    refine Ev.cS1 rfl rfl rfl (by decide) ⟨(Nat.le_refl _), (Nat.le_refl _)⟩ (m_dig_bt (ht.le _)) ?_
                    refine Ev.zeq (tgt := 261) rfl (by decide) (fun c209 => ?_) (fun c209 => ?_)
                    · skip
                      have hdb := b00 c209
                      have htD : tD U n e = d := tD_eq ht he hs had.1 hdr hdb
                      refine Ev.aload_n rfl rfl ?_
                      refine Ev.aload_n rfl rfl ?_
                      refine Ev.getf rfl rfl m0 rfl ?_
                      rw [hd3]
                      refine Ev.aload_n rfl rfl ?_
                      refine Ev.getf rfl rfl m0 rfl ?_
                      rw [hd4]
                      refine Ev.isub rfl ?_
                      rw [show (nI d) - (nI a) = nI (d - a) from (nq_sub (a := d) (b := a) rfl rfl (by omega))]
                      refine Ev.iconst (v := 3) rfl (by decide) ?_
                      refine Ev.jle (tgt := 279) rfl (by decide) (fun c272 => ?_) (fun c272 => ?_)
                      · skip
                        have h3 : d - a ≤ 3 := Nat.le_of_not_lt (fun h => c272 (nI_lt (a := 3) h (by omega)))
                        have hk1 : tK U n e = 1 := htk.1.trans (if_pos (by rw [htD]; omega))
                        have hvV : nvl U a (min (d - a) 3) = tV U n e := by
                          unfold tV
                          rw [htD, hs, show min (d - a) 3 = d - a by omega]
                        refine Ev.iconst (v := 1) rfl (by decide) ?_
                        refine Ev.putE rfl rfl m0 rfl rfl rfl (Nat.le_of_ble_eq_true rfl) (fun τ7 f1 q1 => ?_)
                        have m0 : τ7.2 y = some (.inr (.inr (10, mo y (upd gd 5 (1 : Int32))))) := q1
                        have fr := fr.step f1 (by omega) (by omega)
                        have m1 := frm.cell fr m10 (by omega)
                        have hM : isM _ y (upd gd 5 (1 : Int32)) A := ⟨m0, m1⟩
                        refine Ev.goto (tgt := 311) rfl (by decide) ?_
                        refine Ev.ret rfl rfl (Nat.le_refl _) (Nat.le_refl _) ?_
                        rw [← hQ]
                        refine ⟨rfl, fr, (upd gd 5 (1 : Int32)), m0, ?_, fun i hi => (pk_un (by omega)).trans (hkd i (by omega))⟩
                        exact crs_of hs hk1 (htk.2.trans htD) hd3 hd4 rfl (fun _ => hd6.trans (congrArg nI hvV)) (fun h => nomatch h)
                      · skip
                        have h3 : 3 < d - a := (nI_ltI (a := 3) (b := d - a) (by decide) (by omega)).mp c272
                        have hk4 : tK U n e = 4 := htk.1.trans (if_neg (by rw [htD]; omega))
                        refine Ev.iconst (v := 4) rfl (by decide) ?_
                        refine Ev.goto (tgt := 280) rfl (by decide) ?_
                        refine Ev.putE rfl rfl m0 rfl rfl rfl (Nat.le_of_ble_eq_true rfl) (fun τ8 f1 q1 => ?_)
                        have m0 : τ8.2 y = some (.inr (.inr (10, mo y (upd gd 5 (4 : Int32))))) := q1
                        have fr := fr.step f1 (by omega) (by omega)
                        have m1 := frm.cell fr m10 (by omega)
                        have hM : isM _ y (upd gd 5 (4 : Int32)) A := ⟨m0, m1⟩
                        refine Ev.goto (tgt := 311) rfl (by decide) ?_
                        refine Ev.ret rfl rfl (Nat.le_refl _) (Nat.le_refl _) ?_
                        rw [← hQ]
                        refine ⟨rfl, fr, (upd gd 5 (4 : Int32)), m0, ?_, fun i hi => (pk_un (by omega)).trans (hkd i (by omega))⟩
                        exact crs_of hs hk4 (htk.2.trans htD) hd3 hd4 rfl (fun h => nomatch h) (fun h => nomatch h)
                    · skip
                      have hdb := b01 c209
                      have hdn : d < n := ht.at had.2 (fun h => by rw [h] at hdb; exact absurd hdb (by decide))
                      refine Ev.aload_n rfl rfl ?_
                      refine Ev.getf rfl rfl m0 rfl ?_
                      rw [hd3]
                      refine Ev.aload_n rfl rfl ?_
                      refine Ev.getf rfl rfl m0 rfl ?_
                      rw [hd4]
                      refine Ev.isub rfl ?_
                      rw [show (nI d) - (nI a) = nI (d - a) from (nq_sub (a := d) (b := a) rfl rfl (by omega))]
                      refine Ev.iconst (v := 3) rfl (by decide) ?_
                      refine Ev.jge (tgt := 248) rfl (by decide) (fun c222 => ?_) (fun c222 => ?_)
                      · skip
                        refine Ev.aload_n rfl rfl ?_
                        refine Ev.dup rfl rfl ?_
                        refine Ev.getf rfl rfl m0 rfl ?_
                        rw [hd3]
                        refine Ev.iconst (v := 1) rfl (by decide) ?_
                        refine Ev.iadd rfl ?_
                        rw [show (nI d) + (1 : Int32) = nI (d + 1) from (nq_add (a := d) (b := 1) rfl (rfl : (1 : Int32) = nI 1))]
                        refine Ev.putE rfl rfl m0 rfl rfl rfl (Nat.le_of_ble_eq_true rfl) (fun τ9 f1 q1 => ?_)
                        have m0 : τ9.2 y = some (.inr (.inr (10, mo y (upd gd 3 (nI (d + 1)))))) := q1
                        have fr := fr.step f1 (by omega) (by omega)
                        have m1 := frm.cell fr m10 (by omega)
                        have hM : isM _ y (upd gd 3 (nI (d + 1))) A := ⟨m0, m1⟩
                        refine Ev.goto (tgt := 198) rfl (by decide) ?_
                        exact (ih198 (upd gd 3 (nI (d + 1))) (d + 1) (⟨rfl, hd4, by have h3 : 3 ≤ d - a := Nat.le_of_not_lt (fun h => c222 (nI_lt (b := 3) h (by decide))); rw [show min (d + 1 - a) 3 = 3 by omega]; rw [show min (d - a) 3 = 3 by omega] at hd6; exact hd6, ⟨by omega, by omega⟩, up1 hdr hdb, fun i hi => (pk_un (by omega)).trans (hkd i hi)⟩) (by omega) τ9 fr m0).fg (gs rfl (gn (gn (gn gz))))
                      · skip
                        have h3 : d - a < 3 := (nI_ltI (a := d - a) (b := 3) (by omega) (by decide)).mp c222
                        refine Ev.aload_n rfl rfl ?_
                        refine Ev.bipush (v := 10) rfl (by decide) ?_
                        refine Ev.aload_n rfl rfl ?_
                        refine Ev.getf rfl rfl m0 rfl ?_
                        rw [hd6]
                        refine Ev.imul rfl ?_
                        refine Ev.aload_n rfl rfl ?_
                        refine Ev.aload_n rfl rfl ?_
                        refine Ev.getf rfl rfl m0 rfl ?_
                        rw [hd3]
                        refine Ev.cV1 rfl rfl m0 rfl rfl (by decide) ⟨(Nat.le_refl _), (Nat.le_refl _)⟩ (m_byteAt_ok hM (g := gd) ht (show gd 2 = nI n from hd2) hA (by omega)) ?_
                        refine Ev.iadd rfl ?_
                        refine Ev.bipush (v := 48) rfl (by decide) ?_
                        refine Ev.isub rfl ?_
                        have hu2 := dgt_iff.mp hdb
                        have hnl := nvl_lt (U := U) (s := a) (min (d - a) 3) (fun i hi => by have := dgt_iff.mp (hdr (a + i) (by omega) (by omega)); omega)
                        have hnp : 10 ^ (min (d - a) 3) ≤ 10 ^ 3 := Nat.pow_le_pow_right (by decide) (by omega)
                        rw [show tbt U d = nI (U d) from if_neg (by omega), show (10 : Int32) * nI (nvl U a (min (d - a) 3)) + nI (U d) - 48 = nI (10 * nvl U a (min (d - a) 3) + (U d - 48)) from by
                          rw [show (10 : Int32) = nI 10 from rfl, show (48 : Int32) = nI 48 from rfl, pk_mul, nI_add, pk_sub (by omega), show 10 * nvl U a (min (d - a) 3) + U d - 48 = 10 * nvl U a (min (d - a) 3) + (U d - 48) by omega], show min (d - a) 3 = d - a by omega]
                        refine Ev.putE rfl rfl m0 rfl rfl rfl (Nat.le_of_ble_eq_true rfl) (fun τ10 f1 q1 => ?_)
                        have m0 : τ10.2 y = some (.inr (.inr (10, mo y (upd gd 6 (nI (10 * nvl U a (d - a) + (U d - 48))))))) := q1
                        have fr := fr.step f1 (by omega) (by omega)
                        have m1 := frm.cell fr m10 (by omega)
                        have hM : isM _ y (upd gd 6 (nI (10 * nvl U a (d - a) + (U d - 48)))) A := ⟨m0, m1⟩
                        refine Ev.aload_n rfl rfl ?_
                        refine Ev.dup rfl rfl ?_
                        refine Ev.getf rfl rfl m0 rfl ?_
                        rw [show (upd gd 6 (nI (10 * nvl U a (d - a) + (U d - 48)))) 3 = gd 3 from rfl]
                        rw [hd3]
                        refine Ev.iconst (v := 1) rfl (by decide) ?_
                        refine Ev.iadd rfl ?_
                        rw [show (nI d) + (1 : Int32) = nI (d + 1) from (nq_add (a := d) (b := 1) rfl (rfl : (1 : Int32) = nI 1))]
                        refine Ev.putE rfl rfl m0 rfl rfl rfl (Nat.le_of_ble_eq_true rfl) (fun τ11 f1 q1 => ?_)
                        have m0 : τ11.2 y = some (.inr (.inr (10, mo y (upd (upd gd 6 (nI (10 * nvl U a (d - a) + (U d - 48)))) 3 (nI (d + 1)))))) := q1
                        have fr := fr.step f1 (by omega) (by omega)
                        have m1 := frm.cell fr m10 (by omega)
                        have hM : isM _ y (upd (upd gd 6 (nI (10 * nvl U a (d - a) + (U d - 48)))) 3 (nI (d + 1))) A := ⟨m0, m1⟩
                        refine Ev.goto (tgt := 198) rfl (by decide) ?_
                        exact (ih198 (upd (upd gd 6 (nI (10 * nvl U a (d - a) + (U d - 48)))) 3 (nI (d + 1))) (d + 1) (⟨rfl, hd4, by show nI (10 * nvl U a (d - a) + (U d - 48)) = nI (nvl U a (min (d + 1 - a) 3)); rw [show min (d + 1 - a) 3 = (d - a) + 1 by omega, nvl_up, show a + (d - a) = d by omega], ⟨by omega, by omega⟩, up1 hdr hdb, fun i hi => (pk_un (by omega)).trans ((pk_un (by omega)).trans (hkd i hi))⟩) (by omega) τ11 fr m0).fg (gs rfl (gn (gn (gn gz))))
                exact (hl198 _ (upd (upd g0 4 (nI a)) 6 (0 : Int32)) a (⟨hg3, rfl, by rw [Nat.sub_self]; rfl, ⟨Nat.le_refl _, hea.2⟩, fun p h1 h2 => absurd h2 (by omega), fun i hi => (pk_un (by omega)).trans ((pk_un (by omega)).trans (hk0 i (by omega)))⟩) (Nat.lt_succ_self _) τ6 fr m0).fg (gs rfl (gn (gn (gn gz))))
            · skip
              have hlt := b01 c72
              have htk := tok_l hs hlt
              refine Ev.lconst (v := 0) rfl (by decide) ?_
              refine Ev.lstore_n rfl rfl rfl ?_
              have hl77 : ∀ (m77 : Nat) (gb : (Nat → Int32)) (b : Nat) (v : Int64), (gb 3 = nI b ∧ gb 4 = nI a ∧ (a ≤ b ∧ b ≤ n) ∧ (∀ p, a ≤ p → p < b → ltr (U p) = true) ∧ v = Int64.ofNat (wvl U a (min (b - a) 7)) ∧ ∀ i, i < 3 ∨ 4 < i → gb i = g i) → (n - b) < m77 → ∀ τ77 : ex_S, frm σ τ77 y (y + 1) → τ77.2 y = some (.inr (.inr (10, mo y gb))) → Ev Γ 0 0 m_M_advance 0 0 77 [some (.ref y), none, some (.long v), none] [] τ77 Q := by
                intro m77
                induction m77 with
                | zero => intro gb b v _ hm; exact absurd hm (Nat.not_lt_zero _)
                | succ m77 ih77 =>
                  intro gb b v hJ77 hm77
                  intro τ77 fr m0
                  have m1 := frm.cell fr m10 (by omega)
                  have hM : isM _ y gb A := ⟨m0, m1⟩
                  obtain ⟨hb3, hb4, hab, hlr, hv, hkb⟩ := hJ77
                  have hb2 : gb 2 = nI n := (hkb 2 (by omega)).trans hg2
                  refine Ev.aload_n rfl rfl ?_
                  refine Ev.aload_n rfl rfl ?_
                  refine Ev.getf rfl rfl m0 rfl ?_
                  rw [hb3]
                  refine Ev.cV1 rfl rfl m0 rfl rfl (by decide) ⟨(Nat.le_refl _), (Nat.le_refl _)⟩ (m_byteAt_ok hM (g := gb) ht (show gb 2 = nI n from hb2) hA (by omega)) ?_
                  refine Ev.cS1 rfl rfl rfl (by decide) ⟨(Nat.le_refl _), (Nat.le_refl _)⟩ (m_let_bt (ht.le _)) ?_
                  refine Ev.zeq (tgt := 138) rfl (by decide) (fun c88 => ?_) (fun c88 => ?_)
                  · skip
                    have hlb := b00 c88
                    have htL : tL U n e = b := tL_eq ht he hs hab.1 hlr hlb
                    refine Ev.aload_n rfl rfl ?_
                    refine Ev.aload_n rfl rfl ?_
                    refine Ev.getf rfl rfl m0 rfl ?_
                    rw [hb3]
                    refine Ev.aload_n rfl rfl ?_
                    refine Ev.getf rfl rfl m0 rfl ?_
                    rw [hb4]
                    refine Ev.isub rfl ?_
                    rw [show (nI b) - (nI a) = nI (b - a) from (nq_sub (a := b) (b := a) rfl rfl (by omega))]
                    refine Ev.bipush (v := 7) rfl (by decide) ?_
                    refine Ev.jle (tgt := 158) rfl (by decide) (fun c150 => ?_) (fun c150 => ?_)
                    · skip
                      have h7 : b - a ≤ 7 := Nat.le_of_not_lt (fun h => c150 (nI_lt (a := 7) h (by omega)))
                      have hmn : min (b - a) 7 = b - a := by omega
                      rw [hmn] at hv
                      have hwl := wvl_lt (U := U) (s := a) (b - a) (fun i hi => by have := ltr_iff.mp (hlr (a + i) (by omega) (by omega)); omega)
                      have hwp : 32 ^ (b - a) ≤ 32 ^ 7 := Nat.pow_le_pow_right (by decide) h7
                      have hwW : tW U n e = wdc (wvl U a (b - a)) := by
                        unfold tW
                        rw [htL, hs, if_pos h7]
                      refine Ev.lload_n rfl rfl ?_
                      refine Ev.cS1 rfl rfl rfl (by decide) ⟨(Nat.le_refl _), (Nat.le_refl _)⟩ (m_wordOf_ok hv (by omega)) ?_
                      refine Ev.putE rfl rfl m0 rfl rfl rfl (Nat.le_of_ble_eq_true rfl) (fun τ12 f1 q1 => ?_)
                      have m0 : τ12.2 y = some (.inr (.inr (10, mo y (upd gb 7 (nI (wdc (wvl U a (b - a)))))))) := q1
                      have fr := fr.step f1 (by omega) (by omega)
                      have m1 := frm.cell fr m10 (by omega)
                      have hM : isM _ y (upd gb 7 (nI (wdc (wvl U a (b - a))))) A := ⟨m0, m1⟩
                      refine Ev.aload_n rfl rfl ?_
                      refine Ev.aload_n rfl rfl ?_
                      refine Ev.getf rfl rfl m0 rfl ?_
                      rw [show (upd gb 7 (nI (wdc (wvl U a (b - a))))) 7 = (nI (wdc (wvl U a (b - a)))) from by
                        simp only [pk_us]]
                      refine Ev.bipush (v := 99) rfl (by decide) ?_
                      refine Ev.jne (tgt := 179) rfl (by decide) (fun c172 => ?_) (fun c172 => ?_)
                      · skip
                        have hk3 : tK U n e = 3 := htk.1.trans (if_neg (fun h => c172 (congrArg nI (hwW.symm.trans h))))
                        refine Ev.iconst (v := 3) rfl (by decide) ?_
                        refine Ev.putE rfl rfl m0 rfl rfl rfl (Nat.le_of_ble_eq_true rfl) (fun τ13 f1 q1 => ?_)
                        have m0 : τ13.2 y = some (.inr (.inr (10, mo y (upd (upd gb 7 (nI (wdc (wvl U a (b - a))))) 5 (3 : Int32))))) := q1
                        have fr := fr.step f1 (by omega) (by omega)
                        have m1 := frm.cell fr m10 (by omega)
                        have hM : isM _ y (upd (upd gb 7 (nI (wdc (wvl U a (b - a))))) 5 (3 : Int32)) A := ⟨m0, m1⟩
                        refine Ev.goto (tgt := 311) rfl (by decide) ?_
                        refine Ev.ret rfl rfl (Nat.le_refl _) (Nat.le_refl _) ?_
                        rw [← hQ]
                        refine ⟨rfl, fr, (upd (upd gb 7 (nI (wdc (wvl U a (b - a))))) 5 (3 : Int32)), m0, ?_, fun i hi => (pk_un (by omega)).trans ((pk_un (by omega)).trans (hkb i (by omega)))⟩
                        exact crs_of hs hk3 (htk.2.trans htL) hb3 hb4 rfl (fun h => nomatch h) (fun _ => congrArg nI hwW.symm)
                      · skip
                        have hk4 : tK U n e = 4 := htk.1.trans (if_pos (hwW.trans (nI_injL (b := 99) (by rcases wdc_cases (wvl U a (b - a)) with q | q <;> omega) (by decide) c172)))
                        refine Ev.iconst (v := 4) rfl (by decide) ?_
                        refine Ev.goto (tgt := 180) rfl (by decide) ?_
                        refine Ev.putE rfl rfl m0 rfl rfl rfl (Nat.le_of_ble_eq_true rfl) (fun τ14 f1 q1 => ?_)
                        have m0 : τ14.2 y = some (.inr (.inr (10, mo y (upd (upd gb 7 (nI (wdc (wvl U a (b - a))))) 5 (4 : Int32))))) := q1
                        have fr := fr.step f1 (by omega) (by omega)
                        have m1 := frm.cell fr m10 (by omega)
                        have hM : isM _ y (upd (upd gb 7 (nI (wdc (wvl U a (b - a))))) 5 (4 : Int32)) A := ⟨m0, m1⟩
                        refine Ev.goto (tgt := 311) rfl (by decide) ?_
                        refine Ev.ret rfl rfl (Nat.le_refl _) (Nat.le_refl _) ?_
                        rw [← hQ]
                        refine ⟨rfl, fr, (upd (upd gb 7 (nI (wdc (wvl U a (b - a))))) 5 (4 : Int32)), m0, ?_, fun i hi => (pk_un (by omega)).trans ((pk_un (by omega)).trans (hkb i (by omega)))⟩
                        exact crs_of hs hk4 (htk.2.trans htL) hb3 hb4 rfl (fun h => nomatch h) (fun h => nomatch h)
                    · skip
                      have h7 : 7 < b - a := (nI_ltI (a := 7) (b := b - a) (by decide) (by omega)).mp c150
                      have hk4 : tK U n e = 4 := htk.1.trans (if_pos (by
                        unfold tW
                        rw [htL, hs, if_neg (by omega)]))
                      refine Ev.bipush (v := 99) rfl (by decide) ?_
                      refine Ev.goto (tgt := 162) rfl (by decide) ?_
                      refine Ev.putE rfl rfl m0 rfl rfl rfl (Nat.le_of_ble_eq_true rfl) (fun τ15 f1 q1 => ?_)
                      have m0 : τ15.2 y = some (.inr (.inr (10, mo y (upd gb 7 (99 : Int32))))) := q1
                      have fr := fr.step f1 (by omega) (by omega)
                      have m1 := frm.cell fr m10 (by omega)
                      have hM : isM _ y (upd gb 7 (99 : Int32)) A := ⟨m0, m1⟩
                      refine Ev.aload_n rfl rfl ?_
                      refine Ev.aload_n rfl rfl ?_
                      refine Ev.getf rfl rfl m0 rfl ?_
                      rw [show (upd gb 7 (99 : Int32)) 7 = (99 : Int32) from by
                        simp only [pk_us]]
                      refine Ev.bipush (v := 99) rfl (by decide) ?_
                      refine Ev.jne (tgt := 179) rfl (by decide) (fun c172 => absurd (by decide) c172) (fun c172 => ?_)
                      refine Ev.iconst (v := 4) rfl (by decide) ?_
                      refine Ev.goto (tgt := 180) rfl (by decide) ?_
                      refine Ev.putE rfl rfl m0 rfl rfl rfl (Nat.le_of_ble_eq_true rfl) (fun τ16 f1 q1 => ?_)
                      have m0 : τ16.2 y = some (.inr (.inr (10, mo y (upd (upd gb 7 (99 : Int32)) 5 (4 : Int32))))) := q1
                      have fr := fr.step f1 (by omega) (by omega)
                      have m1 := frm.cell fr m10 (by omega)
                      have hM : isM _ y (upd (upd gb 7 (99 : Int32)) 5 (4 : Int32)) A := ⟨m0, m1⟩
                      refine Ev.goto (tgt := 311) rfl (by decide) ?_
                      refine Ev.ret rfl rfl (Nat.le_refl _) (Nat.le_refl _) ?_
                      rw [← hQ]
                      refine ⟨rfl, fr, (upd (upd gb 7 (99 : Int32)) 5 (4 : Int32)), m0, ?_, fun i hi => (pk_un (by omega)).trans ((pk_un (by omega)).trans (hkb i (by omega)))⟩
                      exact crs_of hs hk4 (htk.2.trans htL) hb3 hb4 rfl (fun h => nomatch h) (fun h => nomatch h)
                  · skip
                    have hlb := b01 c88
                    have hbn : b < n := ht.at hab.2 (fun h => by rw [h] at hlb; exact absurd hlb (by decide))
                    refine Ev.aload_n rfl rfl ?_
                    refine Ev.getf rfl rfl m0 rfl ?_
                    rw [hb3]
                    refine Ev.aload_n rfl rfl ?_
                    refine Ev.getf rfl rfl m0 rfl ?_
                    rw [hb4]
                    refine Ev.isub rfl ?_
                    rw [show (nI b) - (nI a) = nI (b - a) from (nq_sub (a := b) (b := a) rfl rfl (by omega))]
                    refine Ev.bipush (v := 7) rfl (by decide) ?_
                    refine Ev.jge (tgt := 125) rfl (by decide) (fun c102 => ?_) (fun c102 => ?_)
                    · skip
                      refine Ev.aload_n rfl rfl ?_
                      refine Ev.dup rfl rfl ?_
                      refine Ev.getf rfl rfl m0 rfl ?_
                      rw [hb3]
                      refine Ev.iconst (v := 1) rfl (by decide) ?_
                      refine Ev.iadd rfl ?_
                      rw [show (nI b) + (1 : Int32) = nI (b + 1) from (nq_add (a := b) (b := 1) rfl (rfl : (1 : Int32) = nI 1))]
                      refine Ev.putE rfl rfl m0 rfl rfl rfl (Nat.le_of_ble_eq_true rfl) (fun τ17 f1 q1 => ?_)
                      have m0 : τ17.2 y = some (.inr (.inr (10, mo y (upd gb 3 (nI (b + 1)))))) := q1
                      have fr := fr.step f1 (by omega) (by omega)
                      have m1 := frm.cell fr m10 (by omega)
                      have hM : isM _ y (upd gb 3 (nI (b + 1))) A := ⟨m0, m1⟩
                      refine Ev.goto (tgt := 77) rfl (by decide) ?_
                      exact (ih77 (upd gb 3 (nI (b + 1))) (b + 1) v (⟨rfl, hb4, ⟨by omega, by omega⟩, up1 hlr hlb, by have h7 : 7 ≤ b - a := Nat.le_of_not_lt (fun h => c102 (nI_lt (b := 7) h (by decide))); rw [show min (b + 1 - a) 7 = 7 by omega]; rw [show min (b - a) 7 = 7 by omega] at hv; exact hv, fun i hi => (pk_un (by omega)).trans (hkb i hi)⟩) (by omega) τ17 fr m0).fg (gs rfl (gn (gs rfl (gn gz))))
                    · skip
                      have h7 : b - a < 7 := (nI_ltI (a := b - a) (b := 7) (by omega) (by decide)).mp c102
                      refine Ev.ldc2 (v := (32)) rfl rfl ?_
                      refine Ev.lload_n rfl rfl ?_
                      refine Ev.lmul rfl ?_
                      refine Ev.aload_n rfl rfl ?_
                      refine Ev.aload_n rfl rfl ?_
                      refine Ev.getf rfl rfl m0 rfl ?_
                      rw [hb3]
                      refine Ev.cV1 rfl rfl m0 rfl rfl (by decide) ⟨(Nat.le_refl _), (Nat.le_refl _)⟩ (m_byteAt_ok hM (g := gb) ht (show gb 2 = nI n from hb2) hA (by omega)) ?_
                      refine Ev.i2l rfl ?_
                      refine Ev.ladd rfl ?_
                      refine Ev.ldc2 (v := (96)) rfl rfl ?_
                      refine Ev.lsub rfl ?_
                      refine Ev.lstore_n rfl rfl rfl ?_
                      refine Ev.aload_n rfl rfl ?_
                      refine Ev.dup rfl rfl ?_
                      refine Ev.getf rfl rfl m0 rfl ?_
                      rw [hb3]
                      refine Ev.iconst (v := 1) rfl (by decide) ?_
                      refine Ev.iadd rfl ?_
                      rw [show (nI b) + (1 : Int32) = nI (b + 1) from (nq_add (a := b) (b := 1) rfl (rfl : (1 : Int32) = nI 1))]
                      refine Ev.putE rfl rfl m0 rfl rfl rfl (Nat.le_of_ble_eq_true rfl) (fun τ18 f1 q1 => ?_)
                      have m0 : τ18.2 y = some (.inr (.inr (10, mo y (upd gb 3 (nI (b + 1)))))) := q1
                      have fr := fr.step f1 (by omega) (by omega)
                      have m1 := frm.cell fr m10 (by omega)
                      have hM : isM _ y (upd gb 3 (nI (b + 1))) A := ⟨m0, m1⟩
                      refine Ev.goto (tgt := 77) rfl (by decide) ?_
                      exact (ih77 (upd gb 3 (nI (b + 1))) (b + 1) (((32 * v) + ((tbt U b).toInt64)) - 96) (⟨rfl, hb4, ⟨by omega, by omega⟩, up1 hlr hlb, by rw [show min (b + 1 - a) 7 = (b - a) + 1 by omega]; rw [show min (b - a) 7 = b - a by omega] at hv; have hu2 := ltr_iff.mp hlb; have q := wv_step hv (show tbt U b = nI (U b) from if_neg (by omega)) hu2.1 hu2.2; rw [show U b = U (a + (b - a)) by rw [show a + (b - a) = b by omega]] at q; exact (by rw [show U (a + (b - a)) = U b by rw [show a + (b - a) = b by omega]] at q; exact q.trans (congrArg Int64.ofNat (show 32 * wvl U a (b - a) + (U b - 96) = 32 * wvl U a (b - a) + (U (a + (b - a)) - 96) by rw [show a + (b - a) = b by omega]))), fun i hi => (pk_un (by omega)).trans (hkb i hi)⟩) (by omega) τ18 fr m0).fg (gs rfl (gn (gs rfl (gn gz))))
              exact (hl77 _ (upd g0 4 (nI a)) a 0 (⟨hg3, rfl, ⟨Nat.le_refl _, hea.2⟩, fun p h1 h2 => absurd h2 (by omega), by rw [Nat.sub_self]; rfl, fun i hi => (pk_un (by omega)).trans (hk0 i (by omega))⟩) (Nat.lt_succ_self _) τ2 fr m0).fg (gs rfl (gn (gs rfl (gn gz))))
          · skip
            have hu := (tbt_neg (ht.le a)).mp c57
            have htk := tok_0 hs hu
            refine Ev.aload_n rfl rfl ?_
            refine Ev.iconst (v := 0) rfl (by decide) ?_
            refine Ev.putE rfl rfl m0 rfl rfl rfl (Nat.le_of_ble_eq_true rfl) (fun τ19 f1 q1 => ?_)
            have m0 : τ19.2 y = some (.inr (.inr (10, mo y (upd (upd g0 4 (nI a)) 5 (0 : Int32))))) := q1
            have fr := fr.step f1 (by omega) (by omega)
            have m1 := frm.cell fr m10 (by omega)
            have hM : isM _ y (upd (upd g0 4 (nI a)) 5 (0 : Int32)) A := ⟨m0, m1⟩
            refine Ev.goto (tgt := 311) rfl (by decide) ?_
            refine Ev.ret rfl rfl (Nat.le_refl _) (Nat.le_refl _) ?_
            rw [← hQ]
            refine ⟨rfl, fr, (upd (upd g0 4 (nI a)) 5 (0 : Int32)), m0, ?_, fun i hi => (pk_un (by omega)).trans ((pk_un (by omega)).trans (hk0 i (by omega)))⟩
            exact crs_of hs htk.1 htk.2 hg3 rfl rfl (fun h => nomatch h) (fun h => nomatch h)
        · skip
          have hbk : blk1 (U a) = true := blk_iff.mpr (by first | exact Or.inr ((tbt_eq (k := 10) (ht.le a) (by decide)).mp c10) | exact Or.inl ((tbt_eq (k := 32) (ht.le a) (by decide)).mp c23))
          have han := ht.at hea.2 (fun h => by rw [h] at hbk; exact absurd hbk (by decide))
          refine Ev.aload_n rfl rfl ?_
          refine Ev.dup rfl rfl ?_
          refine Ev.getf rfl rfl m0 rfl ?_
          rw [hg3]
          refine Ev.iconst (v := 1) rfl (by decide) ?_
          refine Ev.iadd rfl ?_
          rw [show (nI a) + (1 : Int32) = nI (a + 1) from (nq_add (a := a) (b := 1) rfl (rfl : (1 : Int32) = nI 1))]
          refine Ev.putE rfl rfl m0 rfl rfl rfl (Nat.le_of_ble_eq_true rfl) (fun τ20 f1 q1 => ?_)
          have m0 : τ20.2 y = some (.inr (.inr (10, mo y (upd g0 3 (nI (a + 1)))))) := q1
          have fr := fr.step f1 (by omega) (by omega)
          have m1 := frm.cell fr m10 (by omega)
          have hM : isM _ y (upd g0 3 (nI (a + 1))) A := ⟨m0, m1⟩
          refine Ev.goto (tgt := 0) rfl (by decide) ?_
          exact (ih0 (upd g0 3 (nI (a + 1))) (a + 1) (⟨rfl, ⟨by omega, by omega⟩, up1 hbl hbk, fun i hi => (pk_un (by omega)).trans (hk0 i hi)⟩) (by omega) τ20 fr m0).fg (gs rfl (gn (gn (gn gz))))
  exact (hl0 _ g e (⟨hg3, ⟨Nat.le_refl _, he⟩, fun p h1 h2 => absurd h2 (by omega), fun i _ => rfl⟩) (Nat.lt_succ_self _) σ fr m0).fg (gs rfl (gn (gn (gn gz))))
end
end
