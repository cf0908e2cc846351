/-! Texts (class): bytes, letters, the next token, words. -/
noncomputable section
/-- the class's bytes of the text -/
def cbt (U : Nat → Nat) (n : Nat) (c : Nat → Int32) : Prop := ∀ p, p < n → (c p).toInt = if U p < 128 then (U p : Int) else (U p : Int) - 256
theorem cb_eq {U : Nat → Nat} {n p k : Nat} {c : Nat → Int32} (h : cbt U n c) (ht : txt U n) (hp : p < n) (hk : k < 128) : c p = nI k ↔ U p = k := by
  have h1 := h p hp
  have h2 := ht.2.1 p hp
  rw [← Int32.toInt_inj, nI_toInt (by omega), h1]
  split <;> omega
theorem cb_lt {U : Nat → Nat} {n p k : Nat} {c : Nat → Int32} (h : cbt U n c) (ht : txt U n) (hp : p < n) (hk : k < 128) : c p < nI k ↔ (U p < k ∨ 128 ≤ U p) := by
  have h1 := h p hp
  have h2 := ht.2.1 p hp
  rw [lt_toInt, nI_toInt (by omega), h1]
  split <;> omega
theorem cb_gt {U : Nat → Nat} {n p k : Nat} {c : Nat → Int32} (h : cbt U n c) (ht : txt U n) (hp : p < n) (hk : k < 128) : nI k < c p ↔ (k < U p ∧ U p < 128) := by
  have h1 := h p hp
  have h2 := ht.2.1 p hp
  rw [lt_toInt, nI_toInt (by omega), h1]
  split <;> omega
theorem cb_nI {U : Nat → Nat} {n p : Nat} {c : Nat → Int32} (h : cbt U n c) (ht : txt U n) (hp : p < n) (hk : U p < 128) : c p = nI (U p) := (cb_eq h ht hp hk).mpr rfl
/-- how the class's reader stands behind a scan from e on -/
def csc (U : Nat → Nat) (n e : Nat) (tk en va : Int32) : Prop := (tK U n e = 0 ∧ tk = 0) ∨ (tK U n e = 1 ∧ tk = 2 ∧ va = nI (tV U n e) ∧ en = nI (tE U n e)) ∨ (tK U n e = 2 ∧ tk = 3 ∧ en = nI (tE U n e)) ∨ (ltr (U (tS0 U n e)) = true ∧ tk = 1 ∧ en = nI (tL U n e)) ∨ (tK U n e = 4 ∧ tk = 4)
/-- the words of a text: how many blanks stand before place i, where the word before it starts -/
def wci (B : Nat → Nat) : Nat → Nat
  | 0 => 0
  | i + 1 => if B i = 32 then wci B i + 1 else wci B i
def wfi (B : Nat → Nat) : Nat → Nat
  | 0 => 0
  | i + 1 => if B i = 32 then i + 1 else wfi B i
theorem wfi_le (B : Nat → Nat) : ∀ i, wfi B i ≤ i
  | 0 => Nat.le_refl _
  | i + 1 => by
    have := wfi_le B i
    show (if B i = 32 then i + 1 else wfi B i) ≤ i + 1
    split <;> omega
/-- a text of words as the class has it -/
def wtx (Γ : ex_G) (j N : Nat) (B : Nat → Nat) : Prop := gV Γ 4 = .int 1 ∧ (gV Γ 5 = .null ∨ ∃ b, gV Γ 5 = .ref b) ∧ N < 100 ∧ (∃ q, ex_tx[j]? = some q) ∧ (∃ F : Nat → Int32, ((gS Γ j).2, 1, N, F) ∈ gA Γ ∧ ∀ k, k < N → chr (F k) = nI (B k) ∧ narrow .char (.int (chr (F k))) = .int (chr (F k))) ∧ (∀ k, k < N → B k < 128) ∧ ∀ i, i < N → B i = 32 → wfi B i < i ∧ ∀ p, wfi B i ≤ p → p < i → 97 ≤ B p ∧ B p ≤ 122
section
variable {Γ : ex_G} {σ : ex_S} {x q a p y : Nat} {S : Sch} {T : Tol} {P : Pln} {g A : Nat → Int32}
variable {U : Nat → Nat} {n e r b : Nat} {c : Nat → Int32}
theorem wtx_at {j N k : Nat} {B : Nat → Nat} (h : wtx Γ j N B) (hk : k < N) : RetV Γ m_String_charAt [.ref (gS Γ j).1, .int (nI k)] σ (.int (nI (B k))) := by
  obtain ⟨h4, h5, hN, ⟨q, hq⟩, ⟨F, hF, hc⟩, -⟩ := h
  rw [← (hc k hk).1]
  exact str_at h4 h5 hq hF hk hN (hc k hk).2
theorem wtx_len {j N : Nat} {B : Nat → Nat} (h : wtx Γ j N B) : RetV Γ m_String_length [.ref (gS Γ j).1] σ (.int (nI N)) := by
  obtain ⟨h4, h5, hN, ⟨q, hq⟩, ⟨F, hF, hc⟩, -⟩ := h
  exact str_len h4 hq hF hN
def K_cislet (x : Int32) : Int32 := if x < (97 : Int32) then (0 : Int32) else (if (122 : Int32) < x then (0 : Int32) else (1 : Int32))
theorem c_letK_ok (x : Int32) : RetV Γ m_Reader_isLetter [(.int x)] σ (.int (K_cislet x)) := by
  unfold RetV
  generalize hQ : (fun (r : Option Value) (σ' : ex_S) => r = some ((.int (K_cislet x)) : Value) ∧ σ' = σ) = Q
  refine Ret.start pm_127 rfl ?_
  refine Ev.iload_n rfl rfl ?_
  refine Ev.bipush (v := 97) rfl (by decide) ?_
  refine Ev.jlt (tgt := 16) rfl (by decide) (fun c3 => ?_) (fun c3 => ?_)
  · skip
    refine Ev.iconst (v := 0) rfl (by decide) ?_
    refine Ev.iret (ty := .boolean) rfl rfl rfl (Nat.le_refl _) (Nat.le_refl _) ?_
    rw [← hQ]
    refine ⟨congrArg (fun v => some (Value.int v)) (Eq.symm ?_), rfl⟩
    unfold K_cislet
    rw [if_pos c3]
  · skip
    refine Ev.iload_n rfl rfl ?_
    refine Ev.bipush (v := 122) rfl (by decide) ?_
    refine Ev.jgt (tgt := 16) rfl (by decide) (fun c9 => ?_) (fun c9 => ?_)
    · skip
      refine Ev.iconst (v := 0) rfl (by decide) ?_
      refine Ev.iret (ty := .boolean) rfl rfl rfl (Nat.le_refl _) (Nat.le_refl _) ?_
      rw [← hQ]
      refine ⟨congrArg (fun v => some (Value.int v)) (Eq.symm ?_), rfl⟩
      unfold K_cislet
      rw [if_neg c3]
      rw [if_pos c9]
    · skip
      refine Ev.iconst (v := 1) rfl (by decide) ?_
      refine Ev.goto (tgt := 17) rfl (by decide) ?_
      refine Ev.iret (ty := .boolean) rfl rfl rfl (Nat.le_refl _) (Nat.le_refl _) ?_
      rw [← hQ]
      refine ⟨congrArg (fun v => some (Value.int v)) (Eq.symm ?_), rfl⟩
      unfold K_cislet
      rw [if_neg c3]
      rw [if_neg c9]
theorem c_let_bt (hc : cbt U n c) (ht : txt U n) {p : Nat} (hp : p < n) : RetV Γ m_Reader_isLetter [.int (c p)] σ (.int (if ltr (U p) = true then 1 else 0)) := by
  have e : K_cislet (c p) = (if ltr (U p) = true then 1 else 0) := by
    unfold K_cislet
    by_cases d : c p < 97
    · have d2 := (cb_lt (k := 97) hc ht hp (by decide)).mp d
      rw [if_pos d, if_neg (fun h => by have := ltr_iff.mp h; omega)]
    · have d2 : ¬ (U p < 97 ∨ 128 ≤ U p) := fun h => d ((cb_lt (k := 97) hc ht hp (by decide)).mpr h)
      rw [if_neg d]
      by_cases g : (122 : Int32) < c p
      · have g2 := (cb_gt (k := 122) hc ht hp (by decide)).mp g
        rw [if_pos g, if_neg (fun h => by have := ltr_iff.mp h; omega)]
      · have g2 : ¬ (122 < U p ∧ U p < 128) := fun h => g ((cb_gt (k := 122) hc ht hp (by decide)).mpr h)
        rw [if_neg g, if_pos (ltr_iff.mpr ⟨by omega, by omega⟩)]
  rw [← e]
  exact c_letK_ok _
def K_cisdig (x : Int32) : Int32 := if x < (48 : Int32) then (0 : Int32) else (if (57 : Int32) < x then (0 : Int32) else (1 : Int32))
theorem c_digK_ok (x : Int32) : RetV Γ m_Reader_isDigit [(.int x)] σ (.int (K_cisdig x)) := by
  unfold RetV
  generalize hQ : (fun (r : Option Value) (σ' : ex_S) => r = some ((.int (K_cisdig x)) : Value) ∧ σ' = σ) = Q
  refine Ret.start pm_126 rfl ?_
  refine Ev.iload_n rfl rfl ?_
  refine Ev.bipush (v := 48) rfl (by decide) ?_
  refine Ev.jlt (tgt := 16) rfl (by decide) (fun c3 => ?_) (fun c3 => ?_)
  · skip
    refine Ev.iconst (v := 0) rfl (by decide) ?_
    refine Ev.iret (ty := .boolean) rfl rfl rfl (Nat.le_refl _) (Nat.le_refl _) ?_
    rw [← hQ]
    refine ⟨congrArg (fun v => some (Value.int v)) (Eq.symm ?_), rfl⟩
    unfold K_cisdig
    rw [if_pos c3]
  · skip
    refine Ev.iload_n rfl rfl ?_
    refine Ev.bipush (v := 57) rfl (by decide) ?_
    refine Ev.jgt (tgt := 16) rfl (by decide) (fun c9 => ?_) (fun c9 => ?_)
    · skip
      refine Ev.iconst (v := 0) rfl (by decide) ?_
      refine Ev.iret (ty := .boolean) rfl rfl rfl (Nat.le_refl _) (Nat.le_refl _) ?_
      rw [← hQ]
      refine ⟨congrArg (fun v => some (Value.int v)) (Eq.symm ?_), rfl⟩
      unfold K_cisdig
      rw [if_neg c3]
      rw [if_pos c9]
    · skip
      refine Ev.iconst (v := 1) rfl (by decide) ?_
      refine Ev.goto (tgt := 17) rfl (by decide) ?_
      refine Ev.iret (ty := .boolean) rfl rfl rfl (Nat.le_refl _) (Nat.le_refl _) ?_
      rw [← hQ]
      refine ⟨congrArg (fun v => some (Value.int v)) (Eq.symm ?_), rfl⟩
      unfold K_cisdig
      rw [if_neg c3]
      rw [if_neg c9]
theorem c_dig_bt (hc : cbt U n c) (ht : txt U n) {p : Nat} (hp : p < n) : RetV Γ m_Reader_isDigit [.int (c p)] σ (.int (if dgt (U p) = true then 1 else 0)) := by
  have e : K_cisdig (c p) = (if dgt (U p) = true then 1 else 0) := by
    unfold K_cisdig
    by_cases d : c p < 48
    · have d2 := (cb_lt (k := 48) hc ht hp (by decide)).mp d
      rw [if_pos d, if_neg (fun h => by have := dgt_iff.mp h; omega)]
    · have d2 : ¬ (U p < 48 ∨ 128 ≤ U p) := fun h => d ((cb_lt (k := 48) hc ht hp (by decide)).mpr h)
      rw [if_neg d]
      by_cases g : (57 : Int32) < c p
      · have g2 := (cb_gt (k := 57) hc ht hp (by decide)).mp g
        rw [if_pos g, if_neg (fun h => by have := dgt_iff.mp h; omega)]
      · have g2 : ¬ (57 < U p ∧ U p < 128) := fun h => g ((cb_gt (k := 57) hc ht hp (by decide)).mpr h)
        rw [if_neg g, if_pos (dgt_iff.mpr ⟨by omega, by omega⟩)]
  rw [← e]
  exact c_digK_ok _
theorem scanNum_ok {fa pl tk0 en0 va0 si : Int32} {a : Nat} (ht : txt U n) (hc : cbt U n c) (h_tp : σ.2 b = some (.inl (1, 600, c))) (hbr : b < r ∨ r + 1 ≤ b) (h_rd : σ.2 r = some (.inr (.inr (5, [.ref (r + 1), .ref (r + 12), .int fa, .int pl, .ref b, .int (nI n), .int tk0, .int (nI a), .int en0, .int va0, .ref (r + 20), .int si])))) (han : a ≤ n) : RetX Γ m_Reader_scanNumber [.ref r] σ r (r + 1) none (fun τ => ∃ (d : Nat) (tk va : Int32), τ.2 r = some (.inr (.inr (5, [.ref (r + 1), .ref (r + 12), .int fa, .int pl, .ref b, .int (nI n), .int tk, .int (nI a), .int (nI d), .int va, .ref (r + 20), .int si]))) ∧ skp dgt U n a = d ∧ ((d - a ≤ 3 ∧ tk = 2 ∧ va = nI (nvl U a (d - a))) ∨ (3 < d - a ∧ tk = 4))) := by
  have hn6 := ht.1
  unfold RetX
  generalize hQ : ((fun (r0 : Option Value) (τ : ex_S) => r0 = none ∧ frm σ τ r (r + 1) ∧ (fun τ : ex_S => ∃ (d : Nat) (tk va : Int32), τ.2 r = some (.inr (.inr (5, [.ref (r + 1), .ref (r + 12), .int fa, .int pl, .ref b, .int (nI n), .int tk, .int (nI a), .int (nI d), .int va, .ref (r + 20), .int si]))) ∧ skp dgt U n a = d ∧ ((d - a ≤ 3 ∧ tk = 2 ∧ va = nI (nvl U a (d - a))) ∨ (3 < d - a ∧ tk = 4))) τ)) = Q
  refine Ret.start pm_125 rfl ?_
  have fr : frm σ σ r (r + 1) := frm.rf
  refine Ev.aload_n rfl rfl ?_
  refine Ev.getf rfl rfl h_rd rfl ?_
  refine Ev.istore_n rfl rfl rfl ?_
  refine Ev.aload_n rfl rfl ?_
  refine Ev.iconst (v := 0) rfl (by decide) ?_
  refine Ev.putE rfl rfl h_rd rfl rfl rfl (Nat.le_of_ble_eq_true rfl) (fun τ1 f1 h_rd => ?_)
  replace h_rd : τ1.2 r = some (.inr (.inr (5, [(.ref (r + 1)), (.ref (r + 12)), (.int fa), (.int pl), (.ref b), (.int (nI n)), (.int tk0), (.int (nI a)), (.int en0), (.int (0 : Int32)), (.ref (r + 20)), (.int si)]))) := h_rd
  have h_tp := frm.cell f1 h_tp (by omega)
  have fr := fr.step f1 (by omega) (by omega)
  have hl10 : ∀ (m10 : Nat) (d : Nat) (v : Int32), ((a ≤ d ∧ d ≤ n) ∧ (∀ p, a ≤ p → p < d → dgt (U p) = true) ∧ (d - a ≤ 3 → v = nI (nvl U a (d - a)))) → (n - d) < m10 → ∀ τ10 : ex_S, frm σ τ10 r (r + 1) → τ10.2 r = some (.inr (.inr (5, [(.ref (r + 1)), (.ref (r + 12)), (.int fa), (.int pl), (.ref b), (.int (nI n)), (.int tk0), (.int (nI a)), (.int en0), (.int v), (.ref (r + 20)), (.int si)]))) → τ10.2 b = some (.inl (1, 600, c)) → Ev Γ 0 0 m_Reader_scanNumber 0 0 10 [some (.ref r), some (.int (nI d))] [] τ10 Q := by
    intro m10
    induction m10 with
    | zero => intro d v _ hm; exact absurd hm (Nat.not_lt_zero _)
    | succ m10 ih10 =>
      intro d v hJ10 hm10
      intro τ10 fr h_rd h_tp
      obtain ⟨had, hdr, hv⟩ := hJ10
      refine Ev.iload_n rfl rfl ?_
      refine Ev.aload_n rfl rfl ?_
      refine Ev.getf rfl rfl h_rd rfl ?_
      refine Ev.jge (tgt := 63) rfl (by decide) (fun c15 => ?_) (fun c15 => ?_)
      · skip
        have hdb : dgt (U d) = false := by
          first
          | exact b00 c27
          | (rw [show d = n from Nat.le_antisymm had.2 (Nat.le_of_not_lt (fun h => c15 (nI_lt h (by omega))))]; exact ht.d)
        have htD : skp dgt U n a = d := skp_uniq ht.d han had.1 hdr hdb
        refine Ev.aload_n rfl rfl ?_
        refine Ev.iload_n rfl rfl ?_
        refine Ev.aload_n rfl rfl ?_
        refine Ev.getf rfl rfl h_rd rfl ?_
        refine Ev.isub rfl ?_
        rw [show (nI d) - (nI a) = nI (d - a) from (nq_sub (a := d) (b := a) rfl rfl (by omega))]
        refine Ev.iconst (v := 3) rfl (by decide) ?_
        refine Ev.jgt (tgt := 78) rfl (by decide) (fun c71 => ?_) (fun c71 => ?_)
        · skip
          refine Ev.iconst (v := 4) rfl (by decide) ?_
          refine Ev.putE rfl rfl h_rd rfl rfl rfl (Nat.le_of_ble_eq_true rfl) (fun τ2 f1 h_rd => ?_)
          replace h_rd : τ2.2 r = some (.inr (.inr (5, [(.ref (r + 1)), (.ref (r + 12)), (.int fa), (.int pl), (.ref b), (.int (nI n)), (.int (4 : Int32)), (.int (nI a)), (.int en0), (.int v), (.ref (r + 20)), (.int si)]))) := h_rd
          have h_tp := frm.cell f1 h_tp (by omega)
          have fr := fr.step f1 (by omega) (by omega)
          refine Ev.aload_n rfl rfl ?_
          refine Ev.iload_n rfl rfl ?_
          refine Ev.putE rfl rfl h_rd rfl rfl rfl (Nat.le_of_ble_eq_true rfl) (fun τ3 f1 h_rd => ?_)
          replace h_rd : τ3.2 r = some (.inr (.inr (5, [(.ref (r + 1)), (.ref (r + 12)), (.int fa), (.int pl), (.ref b), (.int (nI n)), (.int (4 : Int32)), (.int (nI a)), (.int (nI d)), (.int v), (.ref (r + 20)), (.int si)]))) := h_rd
          have h_tp := frm.cell f1 h_tp (by omega)
          have fr := fr.step f1 (by omega) (by omega)
          refine Ev.ret rfl rfl (Nat.le_refl _) (Nat.le_refl _) ?_
          rw [← hQ]
          refine ⟨rfl, fr, d, _, _, h_rd, htD, ?_⟩
          have h3 : 3 < d - a := (nI_ltI (a := 3) (b := d - a) (by decide) (by omega)).mp c71
          exact Or.inr ⟨h3, rfl⟩
        · skip
          refine Ev.iconst (v := 2) rfl (by decide) ?_
          refine Ev.goto (tgt := 79) rfl (by decide) ?_
          refine Ev.putE rfl rfl h_rd rfl rfl rfl (Nat.le_of_ble_eq_true rfl) (fun τ4 f1 h_rd => ?_)
          replace h_rd : τ4.2 r = some (.inr (.inr (5, [(.ref (r + 1)), (.ref (r + 12)), (.int fa), (.int pl), (.ref b), (.int (nI n)), (.int (2 : Int32)), (.int (nI a)), (.int en0), (.int v), (.ref (r + 20)), (.int si)]))) := h_rd
          have h_tp := frm.cell f1 h_tp (by omega)
          have fr := fr.step f1 (by omega) (by omega)
          refine Ev.aload_n rfl rfl ?_
          refine Ev.iload_n rfl rfl ?_
          refine Ev.putE rfl rfl h_rd rfl rfl rfl (Nat.le_of_ble_eq_true rfl) (fun τ5 f1 h_rd => ?_)
          replace h_rd : τ5.2 r = some (.inr (.inr (5, [(.ref (r + 1)), (.ref (r + 12)), (.int fa), (.int pl), (.ref b), (.int (nI n)), (.int (2 : Int32)), (.int (nI a)), (.int (nI d)), (.int v), (.ref (r + 20)), (.int si)]))) := h_rd
          have h_tp := frm.cell f1 h_tp (by omega)
          have fr := fr.step f1 (by omega) (by omega)
          refine Ev.ret rfl rfl (Nat.le_refl _) (Nat.le_refl _) ?_
          rw [← hQ]
          refine ⟨rfl, fr, d, _, _, h_rd, htD, ?_⟩
          have h3 : d - a ≤ 3 := Nat.le_of_not_lt (fun h => c71 (nI_lt (a := 3) h (by omega)))
          exact Or.inl ⟨h3, rfl, hv h3⟩
      · skip
        have hdn : d < n := (nI_ltI (a := d) (b := n) (by omega) (by omega)).mp c15
        refine Ev.aload_n rfl rfl ?_
        refine Ev.getf rfl rfl h_rd rfl ?_
        refine Ev.iload_n rfl rfl ?_
        refine Ev.baldN (k := d) rfl h_tp rfl ⟨(by omega), by decide⟩ ?_
        refine Ev.cS1 rfl rfl rfl (by decide) ⟨(Nat.le_refl _), (Nat.le_refl _)⟩ (c_dig_bt hc ht (by omega)) ?_
        refine Ev.zeq (tgt := 63) rfl (by decide) (fun c27 => ?_) (fun c27 => ?_)
        · skip
          have hdb : dgt (U d) = false := by
            first
            | exact b00 c27
            | (rw [show d = n from Nat.le_antisymm had.2 (Nat.le_of_not_lt (fun h => c15 (nI_lt h (by omega))))]; exact ht.d)
          have htD : skp dgt U n a = d := skp_uniq ht.d han had.1 hdr hdb
          refine Ev.aload_n rfl rfl ?_
          refine Ev.iload_n rfl rfl ?_
          refine Ev.aload_n rfl rfl ?_
          refine Ev.getf rfl rfl h_rd rfl ?_
          refine Ev.isub rfl ?_
          rw [show (nI d) - (nI a) = nI (d - a) from (nq_sub (a := d) (b := a) rfl rfl (by omega))]
          refine Ev.iconst (v := 3) rfl (by decide) ?_
          refine Ev.jgt (tgt := 78) rfl (by decide) (fun c71 => ?_) (fun c71 => ?_)
          · skip
            refine Ev.iconst (v := 4) rfl (by decide) ?_
            refine Ev.putE rfl rfl h_rd rfl rfl rfl (Nat.le_of_ble_eq_true rfl) (fun τ6 f1 h_rd => ?_)
            replace h_rd : τ6.2 r = some (.inr (.inr (5, [(.ref (r + 1)), (.ref (r + 12)), (.int fa), (.int pl), (.ref b), (.int (nI n)), (.int (4 : Int32)), (.int (nI a)), (.int en0), (.int v), (.ref (r + 20)), (.int si)]))) := h_rd
            have h_tp := frm.cell f1 h_tp (by omega)
            have fr := fr.step f1 (by omega) (by omega)
            refine Ev.aload_n rfl rfl ?_
            refine Ev.iload_n rfl rfl ?_
            refine Ev.putE rfl rfl h_rd rfl rfl rfl (Nat.le_of_ble_eq_true rfl) (fun τ7 f1 h_rd => ?_)
            replace h_rd : τ7.2 r = some (.inr (.inr (5, [(.ref (r + 1)), (.ref (r + 12)), (.int fa), (.int pl), (.ref b), (.int (nI n)), (.int (4 : Int32)), (.int (nI a)), (.int (nI d)), (.int v), (.ref (r + 20)), (.int si)]))) := h_rd
            have h_tp := frm.cell f1 h_tp (by omega)
            have fr := fr.step f1 (by omega) (by omega)
            refine Ev.ret rfl rfl (Nat.le_refl _) (Nat.le_refl _) ?_
            rw [← hQ]
            refine ⟨rfl, fr, d, _, _, h_rd, htD, ?_⟩
            have h3 : 3 < d - a := (nI_ltI (a := 3) (b := d - a) (by decide) (by omega)).mp c71
            exact Or.inr ⟨h3, rfl⟩
          · skip
            refine Ev.iconst (v := 2) rfl (by decide) ?_
            refine Ev.goto (tgt := 79) rfl (by decide) ?_
            refine Ev.putE rfl rfl h_rd rfl rfl rfl (Nat.le_of_ble_eq_true rfl) (fun τ8 f1 h_rd => ?_)
            replace h_rd : τ8.2 r = some (.inr (.inr (5, [(.ref (r + 1)), (.ref (r + 12)), (.int fa), (.int pl), (.ref b), (.int (nI n)), (.int (2 : Int32)), (.int (nI a)), (.int en0), (.int v), (.ref (r + 20)), (.int si)]))) := h_rd
            have h_tp := frm.cell f1 h_tp (by omega)
            have fr := fr.step f1 (by omega) (by omega)
            refine Ev.aload_n rfl rfl ?_
            refine Ev.iload_n rfl rfl ?_
            refine Ev.putE rfl rfl h_rd rfl rfl rfl (Nat.le_of_ble_eq_true rfl) (fun τ9 f1 h_rd => ?_)
            replace h_rd : τ9.2 r = some (.inr (.inr (5, [(.ref (r + 1)), (.ref (r + 12)), (.int fa), (.int pl), (.ref b), (.int (nI n)), (.int (2 : Int32)), (.int (nI a)), (.int (nI d)), (.int v), (.ref (r + 20)), (.int si)]))) := h_rd
            have h_tp := frm.cell f1 h_tp (by omega)
            have fr := fr.step f1 (by omega) (by omega)
            refine Ev.ret rfl rfl (Nat.le_refl _) (Nat.le_refl _) ?_
            rw [← hQ]
            refine ⟨rfl, fr, d, _, _, h_rd, htD, ?_⟩
            have h3 : d - a ≤ 3 := Nat.le_of_not_lt (fun h => c71 (nI_lt (a := 3) h (by omega)))
            exact Or.inl ⟨h3, rfl, hv h3⟩
        · skip
          have hdb := b01 c27
          refine Ev.aload_n rfl rfl ?_
          refine Ev.sipush (v := 9999) rfl (by decide) ?_
          refine Ev.aload_n rfl rfl ?_
          refine Ev.getf rfl rfl h_rd rfl ?_
          refine Ev.bipush (v := 10) rfl (by decide) ?_
          refine Ev.imul rfl ?_
          refine Ev.aload_n rfl rfl ?_
          refine Ev.getf rfl rfl h_rd rfl ?_
          refine Ev.iload_n rfl rfl ?_
          refine Ev.baldN (k := d) rfl h_tp rfl ⟨(by omega), by decide⟩ ?_
          refine Ev.iadd rfl ?_
          refine Ev.bipush (v := 48) rfl (by decide) ?_
          refine Ev.isub rfl ?_
          refine Ev.mmin rfl rfl rfl (Nat.le_of_ble_eq_true rfl) ⟨(Nat.le_refl _), (Nat.le_refl _)⟩ ?_
          refine Ev.putE rfl rfl h_rd rfl rfl rfl (Nat.le_of_ble_eq_true rfl) (fun τ10 f1 h_rd => ?_)
          replace h_rd : τ10.2 r = some (.inr (.inr (5, [(.ref (r + 1)), (.ref (r + 12)), (.int fa), (.int pl), (.ref b), (.int (nI n)), (.int tk0), (.int (nI a)), (.int en0), (.int (if (((v * (10 : Int32)) + (c d)) - (48 : Int32)) < (9999 : Int32) then ((v * (10 : Int32)) + (c d)) - (48 : Int32) else (9999 : Int32))), (.ref (r + 20)), (.int si)]))) := h_rd
          have h_tp := frm.cell f1 h_tp (by omega)
          have fr := fr.step f1 (by omega) (by omega)
          refine Ev.iinc (d := 1) rfl rfl rfl (by decide) rfl ?_
          refine Ev.goto (tgt := 10) rfl (by decide) ?_
          exact (ih10 (d + 1) (if (((v * (10 : Int32)) + (c d)) - (48 : Int32)) < (9999 : Int32) then ((v * (10 : Int32)) + (c d)) - (48 : Int32) else (9999 : Int32)) (⟨⟨by omega, by omega⟩, up1 hdr hdb, fun h3 => by
            have hu2 := dgt_iff.mp hdb
            have hnl := nvl_lt (U := U) (s := a) (d - a) (fun i hi => by have := dgt_iff.mp (hdr (a + i) (by omega) (by omega)); omega)
            have hnp : 10 ^ (d - a) ≤ 10 ^ 2 := Nat.pow_le_pow_right (by decide) (by omega)
            rw [hv (by omega), cb_nI hc ht hdn (by omega), show nI (nvl U a (d - a)) * (10 : Int32) + nI (U d) - 48 = nI (nvl U a (d - a) * 10 + U d - 48) from by
              rw [show (10 : Int32) = nI 10 from rfl, show (48 : Int32) = nI 48 from rfl, pk_mul, nI_add, pk_sub (by omega)]]
            rw [show d + 1 - a = (d - a) + 1 by omega, nvl_up, show a + (d - a) = d by omega]
            rw [if_pos (show nI (nvl U a (d - a) * 10 + U d - 48) < (9999 : Int32) from nI_lt (b := 9999) (by omega) (by decide))]
            congr 1
            omega⟩) (by omega) τ10 fr h_rd h_tp).fg (gs rfl (gs (congrArg Value.int (nq_add (a := d) (b := 1) rfl (rfl : (1 : Int32) = nI 1)).symm) gz))
  exact (hl10 _ a (0 : Int32) (⟨⟨Nat.le_refl _, han⟩, fun p h1 h2 => absurd h2 (by omega), fun _ => by rw [Nat.sub_self]; rfl⟩) (Nat.lt_succ_self _) τ1 fr h_rd h_tp).fg (gs rfl (gs rfl gz))
theorem scan_ok {fa pl tk0 st0 va0 si : Int32} (ht : txt U n) (hc : cbt U n c) (h_tp : σ.2 b = some (.inl (1, 600, c))) (hbr : b < r ∨ r + 1 ≤ b) (h_rd : σ.2 r = some (.inr (.inr (5, [.ref (r + 1), .ref (r + 12), .int fa, .int pl, .ref b, .int (nI n), .int tk0, .int st0, .int (nI e), .int va0, .ref (r + 20), .int si])))) (he : e ≤ n) : RetX Γ m_Reader_scan [.ref r] σ r (r + 1) none (fun τ => ∃ tk en va : Int32, τ.2 r = some (.inr (.inr (5, [.ref (r + 1), .ref (r + 12), .int fa, .int pl, .ref b, .int (nI n), .int tk, .int (nI (tS0 U n e)), .int en, .int va, .ref (r + 20), .int si]))) ∧ csc U n e tk en va) := by
  have hn6 := ht.1
  unfold RetX
  generalize hQ : ((fun (r0 : Option Value) (τ : ex_S) => r0 = none ∧ frm σ τ r (r + 1) ∧ (fun τ : ex_S => ∃ tk en va : Int32, τ.2 r = some (.inr (.inr (5, [.ref (r + 1), .ref (r + 12), .int fa, .int pl, .ref b, .int (nI n), .int tk, .int (nI (tS0 U n e)), .int en, .int va, .ref (r + 20), .int si]))) ∧ csc U n e tk en va) τ)) = Q
  refine Ret.start pm_124 rfl ?_
  have fr : frm σ σ r (r + 1) := frm.rf
  refine Ev.aload_n rfl rfl ?_
  refine Ev.getf rfl rfl h_rd rfl ?_
  refine Ev.istore_n rfl rfl rfl ?_
  have hl5 : ∀ (m5 : Nat) (a : Nat), ((e ≤ a ∧ a ≤ n) ∧ ∀ p, e ≤ p → p < a → blk1 (U p) = true) → (n - a) < m5 → ∀ τ5 : ex_S, frm σ τ5 r (r + 1) → τ5.2 r = some (.inr (.inr (5, [(.ref (r + 1)), (.ref (r + 12)), (.int fa), (.int pl), (.ref b), (.int (nI n)), (.int tk0), (.int st0), (.int (nI e)), (.int va0), (.ref (r + 20)), (.int si)]))) → τ5.2 b = some (.inl (1, 600, c)) → Ev Γ 0 0 m_Reader_scan 0 0 5 [some (.ref r), some (.int (nI a))] [] τ5 Q := by
    intro m5
    induction m5 with
    | zero => intro a _ hm; exact absurd hm (Nat.not_lt_zero _)
    | succ m5 ih5 =>
      intro a hJ5 hm5
      intro τ5 fr h_rd h_tp
      obtain ⟨hea, hbl⟩ := hJ5
      refine Ev.iload_n rfl rfl ?_
      refine Ev.aload_n rfl rfl ?_
      refine Ev.getf rfl rfl h_rd rfl ?_
      refine Ev.jge (tgt := 41) rfl (by decide) (fun c10 => ?_) (fun c10 => ?_)
      · skip
        have hbk : blk1 (U a) = false := by
          first
          | (rw [show a = n from Nat.le_antisymm hea.2 (Nat.le_of_not_lt (fun h => c10 (nI_lt h (by omega))))]; exact ht.b)
          | (cases hx : blk1 (U a)
             · rfl
             · rcases blk_iff.mp hx with q | q
               · exact absurd ((cb_eq (k := 32) hc ht han (by decide)).mpr q) c21
               · exact absurd ((cb_eq (k := 10) hc ht han (by decide)).mpr q) c32)
        have hs : tS0 U n e = a := tS0_eq ht he hea.1 hbl hbk
        refine Ev.aload_n rfl rfl ?_
        refine Ev.iload_n rfl rfl ?_
        refine Ev.putE rfl rfl h_rd rfl rfl rfl (Nat.le_of_ble_eq_true rfl) (fun τ1 f1 h_rd => ?_)
        replace h_rd : τ1.2 r = some (.inr (.inr (5, [(.ref (r + 1)), (.ref (r + 12)), (.int fa), (.int pl), (.ref b), (.int (nI n)), (.int tk0), (.int (nI a)), (.int (nI e)), (.int va0), (.ref (r + 20)), (.int si)]))) := h_rd
        have h_tp := frm.cell f1 h_tp (by omega)
        have fr := fr.step f1 (by omega) (by omega)
        refine Ev.iload_n rfl rfl ?_
        refine Ev.aload_n rfl rfl ?_
        refine Ev.getf rfl rfl h_rd rfl ?_
        refine Ev.jlt (tgt := 65) rfl (by decide) (fun c51 => ?_) (fun c51 => ?_)
        · skip
          have han : a < n := (nI_ltI (a := a) (b := n) (by omega) (by omega)).mp c51
          have hu : ¬ U a = 256 := by have := ht.2.1 a han; omega
          refine Ev.aload_n rfl rfl ?_
          refine Ev.getf rfl rfl h_rd rfl ?_
          refine Ev.iload_n rfl rfl ?_
          refine Ev.baldN (k := a) rfl h_tp rfl ⟨(by omega), by decide⟩ ?_
          refine Ev.bipush (v := 59) rfl (by decide) ?_
          refine Ev.jne (tgt := 89) rfl (by decide) (fun c73 => ?_) (fun c73 => ?_)
          · skip
            refine Ev.aload_n rfl rfl ?_
            refine Ev.getf rfl rfl h_rd rfl ?_
            refine Ev.iload_n rfl rfl ?_
            refine Ev.baldN (k := a) rfl h_tp rfl ⟨(by omega), by decide⟩ ?_
            refine Ev.cS1 rfl rfl rfl (by decide) ⟨(Nat.le_refl _), (Nat.le_refl _)⟩ (c_dig_bt hc ht (by omega)) ?_
            refine Ev.zeq (tgt := 106) rfl (by decide) (fun c98 => ?_) (fun c98 => ?_)
            · skip
              have hl106 : ∀ (m106 : Nat) (l : Nat), ((a ≤ l ∧ l ≤ n) ∧ ∀ p, a ≤ p → p < l → ltr (U p) = true) → (n - l) < m106 → ∀ τ106 : ex_S, frm σ τ106 r (r + 1) → τ106.2 r = some (.inr (.inr (5, [(.ref (r + 1)), (.ref (r + 12)), (.int fa), (.int pl), (.ref b), (.int (nI n)), (.int tk0), (.int (nI a)), (.int (nI e)), (.int va0), (.ref (r + 20)), (.int si)]))) → τ106.2 b = some (.inl (1, 600, c)) → Ev Γ 0 0 m_Reader_scan 0 0 106 [some (.ref r), some (.int (nI l))] [] τ106 Q := by
                intro m106
                induction m106 with
                | zero => intro l _ hm; exact absurd hm (Nat.not_lt_zero _)
                | succ m106 ih106 =>
                  intro l hJ106 hm106
                  intro τ106 fr h_rd h_tp
                  obtain ⟨hal, hlr⟩ := hJ106
                  skip
                  refine Ev.iload_n rfl rfl ?_
                  refine Ev.aload_n rfl rfl ?_
                  refine Ev.getf rfl rfl h_rd rfl ?_
                  refine Ev.jge (tgt := 132) rfl (by decide) (fun c111 => ?_) (fun c111 => ?_)
                  · skip
                    have hlb : ltr (U l) = false := by
                      first
                      | exact b00 c123
                      | (rw [show l = n from Nat.le_antisymm hal.2 (Nat.le_of_not_lt (fun h => c111 (nI_lt h (by omega))))]; exact ht.l)
                    have htL : tL U n e = l := tL_eq ht he hs hal.1 hlr hlb
                    refine Ev.aload_n rfl rfl ?_
                    refine Ev.iload_n rfl rfl ?_
                    refine Ev.aload_n rfl rfl ?_
                    refine Ev.getf rfl rfl h_rd rfl ?_
                    refine Ev.jle (tgt := 145) rfl (by decide) (fun c138 => ?_) (fun c138 => ?_)
                    · skip
                      have hal2 : l = a := Nat.le_antisymm (Nat.le_of_not_lt (fun h => c138 (nI_lt h (by omega)))) hal.1
                      rw [hal2] at hlb
                      have h59 : ¬ U a = 59 := fun h => c73 ((cb_eq (k := 59) hc ht han (by decide)).mpr h)
                      have htk := tok_o hs hu (b00 c98) hlb
                      refine Ev.iconst (v := 4) rfl (by decide) ?_
                      refine Ev.putE rfl rfl h_rd rfl rfl rfl (Nat.le_of_ble_eq_true rfl) (fun τ2 f1 h_rd => ?_)
                      replace h_rd : τ2.2 r = some (.inr (.inr (5, [(.ref (r + 1)), (.ref (r + 12)), (.int fa), (.int pl), (.ref b), (.int (nI n)), (.int (4 : Int32)), (.int (nI a)), (.int (nI e)), (.int va0), (.ref (r + 20)), (.int si)]))) := h_rd
                      have h_tp := frm.cell f1 h_tp (by omega)
                      have fr := fr.step f1 (by omega) (by omega)
                      refine Ev.aload_n rfl rfl ?_
                      refine Ev.iload_n rfl rfl ?_
                      refine Ev.putE rfl rfl h_rd rfl rfl rfl (Nat.le_of_ble_eq_true rfl) (fun τ3 f1 h_rd => ?_)
                      replace h_rd : τ3.2 r = some (.inr (.inr (5, [(.ref (r + 1)), (.ref (r + 12)), (.int fa), (.int pl), (.ref b), (.int (nI n)), (.int (4 : Int32)), (.int (nI a)), (.int (nI l)), (.int va0), (.ref (r + 20)), (.int si)]))) := h_rd
                      have h_tp := frm.cell f1 h_tp (by omega)
                      have fr := fr.step f1 (by omega) (by omega)
                      refine Ev.ret rfl rfl (Nat.le_refl _) (Nat.le_refl _) ?_
                      rw [← hQ]
                      rw [← hs] at h_rd
                      refine ⟨rfl, fr, _, _, _, h_rd, ?_⟩
                      exact Or.inr (Or.inr (Or.inr (Or.inr ⟨htk.1.trans (if_neg h59), rfl⟩)))
                    · skip
                      have hal2 := (nI_ltI (a := a) (b := l) (by omega) (by omega)).mp c138
                      have hla := hlr a (Nat.le_refl _) hal2
                      refine Ev.iconst (v := 1) rfl (by decide) ?_
                      refine Ev.goto (tgt := 146) rfl (by decide) ?_
                      refine Ev.putE rfl rfl h_rd rfl rfl rfl (Nat.le_of_ble_eq_true rfl) (fun τ4 f1 h_rd => ?_)
                      replace h_rd : τ4.2 r = some (.inr (.inr (5, [(.ref (r + 1)), (.ref (r + 12)), (.int fa), (.int pl), (.ref b), (.int (nI n)), (.int (1 : Int32)), (.int (nI a)), (.int (nI e)), (.int va0), (.ref (r + 20)), (.int si)]))) := h_rd
                      have h_tp := frm.cell f1 h_tp (by omega)
                      have fr := fr.step f1 (by omega) (by omega)
                      refine Ev.aload_n rfl rfl ?_
                      refine Ev.iload_n rfl rfl ?_
                      refine Ev.putE rfl rfl h_rd rfl rfl rfl (Nat.le_of_ble_eq_true rfl) (fun τ5 f1 h_rd => ?_)
                      replace h_rd : τ5.2 r = some (.inr (.inr (5, [(.ref (r + 1)), (.ref (r + 12)), (.int fa), (.int pl), (.ref b), (.int (nI n)), (.int (1 : Int32)), (.int (nI a)), (.int (nI l)), (.int va0), (.ref (r + 20)), (.int si)]))) := h_rd
                      have h_tp := frm.cell f1 h_tp (by omega)
                      have fr := fr.step f1 (by omega) (by omega)
                      refine Ev.ret rfl rfl (Nat.le_refl _) (Nat.le_refl _) ?_
                      rw [← hQ]
                      rw [← hs] at h_rd
                      refine ⟨rfl, fr, _, _, _, h_rd, ?_⟩
                      exact Or.inr (Or.inr (Or.inr (Or.inl ⟨by rw [hs]; exact hla, rfl, congrArg nI htL.symm⟩)))
                  · skip
                    have hln : l < n := (nI_ltI (a := l) (b := n) (by omega) (by omega)).mp c111
                    refine Ev.aload_n rfl rfl ?_
                    refine Ev.getf rfl rfl h_rd rfl ?_
                    refine Ev.iload_n rfl rfl ?_
                    refine Ev.baldN (k := l) rfl h_tp rfl ⟨(by omega), by decide⟩ ?_
                    refine Ev.cS1 rfl rfl rfl (by decide) ⟨(Nat.le_refl _), (Nat.le_refl _)⟩ (c_let_bt hc ht (by omega)) ?_
                    refine Ev.zeq (tgt := 132) rfl (by decide) (fun c123 => ?_) (fun c123 => ?_)
                    · skip
                      have hlb : ltr (U l) = false := by
                        first
                        | exact b00 c123
                        | (rw [show l = n from Nat.le_antisymm hal.2 (Nat.le_of_not_lt (fun h => c111 (nI_lt h (by omega))))]; exact ht.l)
                      have htL : tL U n e = l := tL_eq ht he hs hal.1 hlr hlb
                      refine Ev.aload_n rfl rfl ?_
                      refine Ev.iload_n rfl rfl ?_
                      refine Ev.aload_n rfl rfl ?_
                      refine Ev.getf rfl rfl h_rd rfl ?_
                      refine Ev.jle (tgt := 145) rfl (by decide) (fun c138 => ?_) (fun c138 => ?_)
                      · skip
                        have hal2 : l = a := Nat.le_antisymm (Nat.le_of_not_lt (fun h => c138 (nI_lt h (by omega)))) hal.1
                        rw [hal2] at hlb
                        have h59 : ¬ U a = 59 := fun h => c73 ((cb_eq (k := 59) hc ht han (by decide)).mpr h)
                        have htk := tok_o hs hu (b00 c98) hlb
                        refine Ev.iconst (v := 4) rfl (by decide) ?_
                        refine Ev.putE rfl rfl h_rd rfl rfl rfl (Nat.le_of_ble_eq_true rfl) (fun τ6 f1 h_rd => ?_)
                        replace h_rd : τ6.2 r = some (.inr (.inr (5, [(.ref (r + 1)), (.ref (r + 12)), (.int fa), (.int pl), (.ref b), (.int (nI n)), (.int (4 : Int32)), (.int (nI a)), (.int (nI e)), (.int va0), (.ref (r + 20)), (.int si)]))) := h_rd
                        have h_tp := frm.cell f1 h_tp (by omega)
                        have fr := fr.step f1 (by omega) (by omega)
                        refine Ev.aload_n rfl rfl ?_
                        refine Ev.iload_n rfl rfl ?_
                        refine Ev.putE rfl rfl h_rd rfl rfl rfl (Nat.le_of_ble_eq_true rfl) (fun τ7 f1 h_rd => ?_)
                        replace h_rd : τ7.2 r = some (.inr (.inr (5, [(.ref (r + 1)), (.ref (r + 12)), (.int fa), (.int pl), (.ref b), (.int (nI n)), (.int (4 : Int32)), (.int (nI a)), (.int (nI l)), (.int va0), (.ref (r + 20)), (.int si)]))) := h_rd
                        have h_tp := frm.cell f1 h_tp (by omega)
                        have fr := fr.step f1 (by omega) (by omega)
                        refine Ev.ret rfl rfl (Nat.le_refl _) (Nat.le_refl _) ?_
                        rw [← hQ]
                        rw [← hs] at h_rd
                        refine ⟨rfl, fr, _, _, _, h_rd, ?_⟩
                        exact Or.inr (Or.inr (Or.inr (Or.inr ⟨htk.1.trans (if_neg h59), rfl⟩)))
                      · skip
                        have hal2 := (nI_ltI (a := a) (b := l) (by omega) (by omega)).mp c138
                        have hla := hlr a (Nat.le_refl _) hal2
                        refine Ev.iconst (v := 1) rfl (by decide) ?_
                        refine Ev.goto (tgt := 146) rfl (by decide) ?_
                        refine Ev.putE rfl rfl h_rd rfl rfl rfl (Nat.le_of_ble_eq_true rfl) (fun τ8 f1 h_rd => ?_)
                        replace h_rd : τ8.2 r = some (.inr (.inr (5, [(.ref (r + 1)), (.ref (r + 12)), (.int fa), (.int pl), (.ref b), (.int (nI n)), (.int (1 : Int32)), (.int (nI a)), (.int (nI e)), (.int va0), (.ref (r + 20)), (.int si)]))) := h_rd
                        have h_tp := frm.cell f1 h_tp (by omega)
                        have fr := fr.step f1 (by omega) (by omega)
                        refine Ev.aload_n rfl rfl ?_
                        refine Ev.iload_n rfl rfl ?_
                        refine Ev.putE rfl rfl h_rd rfl rfl rfl (Nat.le_of_ble_eq_true rfl) (fun τ9 f1 h_rd => ?_)
                        replace h_rd : τ9.2 r = some (.inr (.inr (5, [(.ref (r + 1)), (.ref (r + 12)), (.int fa), (.int pl), (.ref b), (.int (nI n)), (.int (1 : Int32)), (.int (nI a)), (.int (nI l)), (.int va0), (.ref (r + 20)), (.int si)]))) := h_rd
                        have h_tp := frm.cell f1 h_tp (by omega)
                        have fr := fr.step f1 (by omega) (by omega)
                        refine Ev.ret rfl rfl (Nat.le_refl _) (Nat.le_refl _) ?_
                        rw [← hQ]
                        rw [← hs] at h_rd
                        refine ⟨rfl, fr, _, _, _, h_rd, ?_⟩
                        exact Or.inr (Or.inr (Or.inr (Or.inl ⟨by rw [hs]; exact hla, rfl, congrArg nI htL.symm⟩)))
                    · skip
                      have hlb := b01 c123
                      refine Ev.iinc (d := 1) rfl rfl rfl (by decide) rfl ?_
                      refine Ev.goto (tgt := 106) rfl (by decide) ?_
                      exact (ih106 (l + 1) (⟨⟨by omega, by omega⟩, up1 hlr hlb⟩) (by omega) τ106 fr h_rd h_tp).fg (gs rfl (gs (congrArg Value.int (nq_add (a := l) (b := 1) rfl (rfl : (1 : Int32) = nI 1)).symm) gz))
              exact (hl106 _ a (⟨⟨Nat.le_refl _, hea.2⟩, fun p h1 h2 => absurd h2 (by omega)⟩) (Nat.lt_succ_self _) τ1 fr h_rd h_tp).fg (gs rfl (gs rfl gz))
            · skip
              have hdg := b01 c98
              refine Ev.aload_n rfl rfl ?_
              refine Ev.xV0u rfl rfl h_rd rfl rfl (by decide) ⟨(Nat.le_refl _), (Nat.le_refl _)⟩ (scanNum_ok ht hc h_tp hbr h_rd hea.2) (fun τ9 f9 q9 => ?_)
              obtain ⟨d, tk9, va9, h_rd, hD, hor⟩ := q9
              have fr := fr.step f9 (by omega) (by omega)
              have htk := tok_d hs hdg
              have htD : tD U n e = d := by
                unfold tD
                rw [hs]
                exact hD
              refine Ev.ret rfl rfl (Nat.le_refl _) (Nat.le_refl _) ?_
              rw [← hQ]
              rw [← hs] at h_rd
              refine ⟨rfl, fr, _, _, _, h_rd, ?_⟩
              rcases hor with ⟨h3, h4, h5⟩ | ⟨h3, h4⟩
              · refine Or.inr (Or.inl ⟨htk.1.trans (if_pos (by rw [htD]; exact h3)), h4, ?_, congrArg nI (htk.2.trans htD).symm⟩)
                rw [h5]
                unfold tV
                rw [htD, hs]
              · exact Or.inr (Or.inr (Or.inr (Or.inr ⟨htk.1.trans (if_neg (by rw [htD]; omega)), h4⟩)))
          · skip
            have h59 := (cb_eq (k := 59) hc ht han (by decide)).mp c73
            have htk := tok_o hs hu (by rw [h59]; decide) (by rw [h59]; decide)
            refine Ev.aload_n rfl rfl ?_
            refine Ev.iconst (v := 3) rfl (by decide) ?_
            refine Ev.putE rfl rfl h_rd rfl rfl rfl (Nat.le_of_ble_eq_true rfl) (fun τ10 f1 h_rd => ?_)
            replace h_rd : τ10.2 r = some (.inr (.inr (5, [(.ref (r + 1)), (.ref (r + 12)), (.int fa), (.int pl), (.ref b), (.int (nI n)), (.int (3 : Int32)), (.int (nI a)), (.int (nI e)), (.int va0), (.ref (r + 20)), (.int si)]))) := h_rd
            have h_tp := frm.cell f1 h_tp (by omega)
            have fr := fr.step f1 (by omega) (by omega)
            refine Ev.aload_n rfl rfl ?_
            refine Ev.iload_n rfl rfl ?_
            refine Ev.iconst (v := 1) rfl (by decide) ?_
            refine Ev.iadd rfl ?_
            rw [show (nI a) + (1 : Int32) = nI (a + 1) from (nq_add (a := a) (b := 1) rfl (rfl : (1 : Int32) = nI 1))]
            refine Ev.putE rfl rfl h_rd rfl rfl rfl (Nat.le_of_ble_eq_true rfl) (fun τ11 f1 h_rd => ?_)
            replace h_rd : τ11.2 r = some (.inr (.inr (5, [(.ref (r + 1)), (.ref (r + 12)), (.int fa), (.int pl), (.ref b), (.int (nI n)), (.int (3 : Int32)), (.int (nI a)), (.int (nI (a + 1))), (.int va0), (.ref (r + 20)), (.int si)]))) := h_rd
            have h_tp := frm.cell f1 h_tp (by omega)
            have fr := fr.step f1 (by omega) (by omega)
            refine Ev.ret rfl rfl (Nat.le_refl _) (Nat.le_refl _) ?_
            rw [← hQ]
            rw [← hs] at h_rd
            refine ⟨rfl, fr, _, _, _, h_rd, ?_⟩
            exact Or.inr (Or.inr (Or.inl ⟨htk.1.trans (if_pos h59), rfl, congrArg nI (show tS0 U n e + 1 = tE U n e by rw [hs]; exact htk.2.symm)⟩))
        · skip
          have hu : U a = 256 := ht.2.2 a (Nat.le_of_not_lt (fun h => c51 (nI_lt h (by omega))))
          have htk := tok_0 hs hu
          refine Ev.aload_n rfl rfl ?_
          refine Ev.iconst (v := 0) rfl (by decide) ?_
          refine Ev.putE rfl rfl h_rd rfl rfl rfl (Nat.le_of_ble_eq_true rfl) (fun τ12 f1 h_rd => ?_)
          replace h_rd : τ12.2 r = some (.inr (.inr (5, [(.ref (r + 1)), (.ref (r + 12)), (.int fa), (.int pl), (.ref b), (.int (nI n)), (.int (0 : Int32)), (.int (nI a)), (.int (nI e)), (.int va0), (.ref (r + 20)), (.int si)]))) := h_rd
          have h_tp := frm.cell f1 h_tp (by omega)
          have fr := fr.step f1 (by omega) (by omega)
          refine Ev.aload_n rfl rfl ?_
          refine Ev.iload_n rfl rfl ?_
          refine Ev.putE rfl rfl h_rd rfl rfl rfl (Nat.le_of_ble_eq_true rfl) (fun τ13 f1 h_rd => ?_)
          replace h_rd : τ13.2 r = some (.inr (.inr (5, [(.ref (r + 1)), (.ref (r + 12)), (.int fa), (.int pl), (.ref b), (.int (nI n)), (.int (0 : Int32)), (.int (nI a)), (.int (nI a)), (.int va0), (.ref (r + 20)), (.int si)]))) := h_rd
          have h_tp := frm.cell f1 h_tp (by omega)
          have fr := fr.step f1 (by omega) (by omega)
          refine Ev.ret rfl rfl (Nat.le_refl _) (Nat.le_refl _) ?_
          rw [← hQ]
          rw [← hs] at h_rd
          refine ⟨rfl, fr, _, _, _, h_rd, ?_⟩
          exact Or.inl ⟨htk.1, rfl⟩
      · skip
        have han : a < n := (nI_ltI (a := a) (b := n) (by omega) (by omega)).mp c10
        refine Ev.aload_n rfl rfl ?_
        refine Ev.getf rfl rfl h_rd rfl ?_
        refine Ev.iload_n rfl rfl ?_
        refine Ev.baldN (k := a) rfl h_tp rfl ⟨(by omega), by decide⟩ ?_
        refine Ev.bipush (v := 32) rfl (by decide) ?_
        refine Ev.jeq (tgt := 35) rfl (by decide) (fun c21 => ?_) (fun c21 => ?_)
        · skip
          have hbk : blk1 (U a) = true := blk_iff.mpr (by first | exact Or.inl ((cb_eq (k := 32) hc ht han (by decide)).mp c21) | exact Or.inr ((cb_eq (k := 10) hc ht han (by decide)).mp c32))
          refine Ev.iinc (d := 1) rfl rfl rfl (by decide) rfl ?_
          refine Ev.goto (tgt := 5) rfl (by decide) ?_
          exact (ih5 (a + 1) (⟨⟨by omega, by omega⟩, up1 hbl hbk⟩) (by omega) τ5 fr h_rd h_tp).fg (gs rfl (gs (congrArg Value.int (nq_add (a := a) (b := 1) rfl (rfl : (1 : Int32) = nI 1)).symm) gz))
        · skip
          refine Ev.aload_n rfl rfl ?_
          refine Ev.getf rfl rfl h_rd rfl ?_
          refine Ev.iload_n rfl rfl ?_
          refine Ev.baldN (k := a) rfl h_tp rfl ⟨(by omega), by decide⟩ ?_
          refine Ev.bipush (v := 10) rfl (by decide) ?_
          refine Ev.jne (tgt := 41) rfl (by decide) (fun c32 => ?_) (fun c32 => ?_)
          · skip
            have hbk : blk1 (U a) = false := by
              first
              | (rw [show a = n from Nat.le_antisymm hea.2 (Nat.le_of_not_lt (fun h => c10 (nI_lt h (by omega))))]; exact ht.b)
              | (cases hx : blk1 (U a)
                 · rfl
                 · rcases blk_iff.mp hx with q | q
                   · exact absurd ((cb_eq (k := 32) hc ht han (by decide)).mpr q) c21
                   · exact absurd ((cb_eq (k := 10) hc ht han (by decide)).mpr q) c32)
            have hs : tS0 U n e = a := tS0_eq ht he hea.1 hbl hbk
            refine Ev.aload_n rfl rfl ?_
            refine Ev.iload_n rfl rfl ?_
            refine Ev.putE rfl rfl h_rd rfl rfl rfl (Nat.le_of_ble_eq_true rfl) (fun τ14 f1 h_rd => ?_)
            replace h_rd : τ14.2 r = some (.inr (.inr (5, [(.ref (r + 1)), (.ref (r + 12)), (.int fa), (.int pl), (.ref b), (.int (nI n)), (.int tk0), (.int (nI a)), (.int (nI e)), (.int va0), (.ref (r + 20)), (.int si)]))) := h_rd
            have h_tp := frm.cell f1 h_tp (by omega)
            have fr := fr.step f1 (by omega) (by omega)
            refine Ev.iload_n rfl rfl ?_
            refine Ev.aload_n rfl rfl ?_
            refine Ev.getf rfl rfl h_rd rfl ?_
            refine Ev.jlt (tgt := 65) rfl (by decide) (fun c51 => ?_) (fun c51 => ?_)
            · skip
              have han : a < n := (nI_ltI (a := a) (b := n) (by omega) (by omega)).mp c51
              have hu : ¬ U a = 256 := by have := ht.2.1 a han; omega
              refine Ev.aload_n rfl rfl ?_
              refine Ev.getf rfl rfl h_rd rfl ?_
              refine Ev.iload_n rfl rfl ?_
              refine Ev.baldN (k := a) rfl h_tp rfl ⟨(by omega), by decide⟩ ?_
              refine Ev.bipush (v := 59) rfl (by decide) ?_
              refine Ev.jne (tgt := 89) rfl (by decide) (fun c73 => ?_) (fun c73 => ?_)
              · skip
                refine Ev.aload_n rfl rfl ?_
                refine Ev.getf rfl rfl h_rd rfl ?_
                refine Ev.iload_n rfl rfl ?_
                refine Ev.baldN (k := a) rfl h_tp rfl ⟨(by omega), by decide⟩ ?_
                refine Ev.cS1 rfl rfl rfl (by decide) ⟨(Nat.le_refl _), (Nat.le_refl _)⟩ (c_dig_bt hc ht (by omega)) ?_
                refine Ev.zeq (tgt := 106) rfl (by decide) (fun c98 => ?_) (fun c98 => ?_)
                · skip
                  have hl106 : ∀ (m106 : Nat) (l : Nat), ((a ≤ l ∧ l ≤ n) ∧ ∀ p, a ≤ p → p < l → ltr (U p) = true) → (n - l) < m106 → ∀ τ106 : ex_S, frm σ τ106 r (r + 1) → τ106.2 r = some (.inr (.inr (5, [(.ref (r + 1)), (.ref (r + 12)), (.int fa), (.int pl), (.ref b), (.int (nI n)), (.int tk0), (.int (nI a)), (.int (nI e)), (.int va0), (.ref (r + 20)), (.int si)]))) → τ106.2 b = some (.inl (1, 600, c)) → Ev Γ 0 0 m_Reader_scan 0 0 106 [some (.ref r), some (.int (nI l))] [] τ106 Q := by
                    intro m106
                    induction m106 with
                    | zero => intro l _ hm; exact absurd hm (Nat.not_lt_zero _)
                    | succ m106 ih106 =>
                      intro l hJ106 hm106
                      intro τ106 fr h_rd h_tp
                      obtain ⟨hal, hlr⟩ := hJ106
                      skip
                      refine Ev.iload_n rfl rfl ?_
                      refine Ev.aload_n rfl rfl ?_
                      refine Ev.getf rfl rfl h_rd rfl ?_
                      refine Ev.jge (tgt := 132) rfl (by decide) (fun c111 => ?_) (fun c111 => ?_)
                      · skip
                        have hlb : ltr (U l) = false := by
                          first
                          | exact b00 c123
                          | (rw [show l = n from Nat.le_antisymm hal.2 (Nat.le_of_not_lt (fun h => c111 (nI_lt h (by omega))))]; exact ht.l)
                        have htL : tL U n e = l := tL_eq ht he hs hal.1 hlr hlb
                        refine Ev.aload_n rfl rfl ?_
                        refine Ev.iload_n rfl rfl ?_
                        refine Ev.aload_n rfl rfl ?_
                        refine Ev.getf rfl rfl h_rd rfl ?_
                        refine Ev.jle (tgt := 145) rfl (by decide) (fun c138 => ?_) (fun c138 => ?_)
                        · skip
                          have hal2 : l = a := Nat.le_antisymm (Nat.le_of_not_lt (fun h => c138 (nI_lt h (by omega)))) hal.1
                          rw [hal2] at hlb
                          have h59 : ¬ U a = 59 := fun h => c73 ((cb_eq (k := 59) hc ht han (by decide)).mpr h)
                          have htk := tok_o hs hu (b00 c98) hlb
                          refine Ev.iconst (v := 4) rfl (by decide) ?_
                          refine Ev.putE rfl rfl h_rd rfl rfl rfl (Nat.le_of_ble_eq_true rfl) (fun τ15 f1 h_rd => ?_)
                          replace h_rd : τ15.2 r = some (.inr (.inr (5, [(.ref (r + 1)), (.ref (r + 12)), (.int fa), (.int pl), (.ref b), (.int (nI n)), (.int (4 : Int32)), (.int (nI a)), (.int (nI e)), (.int va0), (.ref (r + 20)), (.int si)]))) := h_rd
                          have h_tp := frm.cell f1 h_tp (by omega)
                          have fr := fr.step f1 (by omega) (by omega)
                          refine Ev.aload_n rfl rfl ?_
                          refine Ev.iload_n rfl rfl ?_
                          refine Ev.putE rfl rfl h_rd rfl rfl rfl (Nat.le_of_ble_eq_true rfl) (fun τ16 f1 h_rd => ?_)
                          replace h_rd : τ16.2 r = some (.inr (.inr (5, [(.ref (r + 1)), (.ref (r + 12)), (.int fa), (.int pl), (.ref b), (.int (nI n)), (.int (4 : Int32)), (.int (nI a)), (.int (nI l)), (.int va0), (.ref (r + 20)), (.int si)]))) := h_rd
                          have h_tp := frm.cell f1 h_tp (by omega)
                          have fr := fr.step f1 (by omega) (by omega)
                          refine Ev.ret rfl rfl (Nat.le_refl _) (Nat.le_refl _) ?_
                          rw [← hQ]
                          rw [← hs] at h_rd
                          refine ⟨rfl, fr, _, _, _, h_rd, ?_⟩
                          exact Or.inr (Or.inr (Or.inr (Or.inr ⟨htk.1.trans (if_neg h59), rfl⟩)))
                        · skip
                          have hal2 := (nI_ltI (a := a) (b := l) (by omega) (by omega)).mp c138
                          have hla := hlr a (Nat.le_refl _) hal2
                          refine Ev.iconst (v := 1) rfl (by decide) ?_
                          refine Ev.goto (tgt := 146) rfl (by decide) ?_
                          refine Ev.putE rfl rfl h_rd rfl rfl rfl (Nat.le_of_ble_eq_true rfl) (fun τ17 f1 h_rd => ?_)
                          replace h_rd : τ17.2 r = some (.inr (.inr (5, [(.ref (r + 1)), (.ref (r + 12)), (.int fa), (.int pl), (.ref b), (.int (nI n)), (.int (1 : Int32)), (.int (nI a)), (.int (nI e)), (.int va0), (.ref (r + 20)), (.int si)]))) := h_rd
                          have h_tp := frm.cell f1 h_tp (by omega)
                          have fr := fr.step f1 (by omega) (by omega)
                          refine Ev.aload_n rfl rfl ?_
                          refine Ev.iload_n rfl rfl ?_
                          refine Ev.putE rfl rfl h_rd rfl rfl rfl (Nat.le_of_ble_eq_true rfl) (fun τ18 f1 h_rd => ?_)
                          replace h_rd : τ18.2 r = some (.inr (.inr (5, [(.ref (r + 1)), (.ref (r + 12)), (.int fa), (.int pl), (.ref b), (.int (nI n)), (.int (1 : Int32)), (.int (nI a)), (.int (nI l)), (.int va0), (.ref (r + 20)), (.int si)]))) := h_rd
                          have h_tp := frm.cell f1 h_tp (by omega)
                          have fr := fr.step f1 (by omega) (by omega)
                          refine Ev.ret rfl rfl (Nat.le_refl _) (Nat.le_refl _) ?_
                          rw [← hQ]
                          rw [← hs] at h_rd
                          refine ⟨rfl, fr, _, _, _, h_rd, ?_⟩
                          exact Or.inr (Or.inr (Or.inr (Or.inl ⟨by rw [hs]; exact hla, rfl, congrArg nI htL.symm⟩)))
                      · skip
                        have hln : l < n := (nI_ltI (a := l) (b := n) (by omega) (by omega)).mp c111
                        refine Ev.aload_n rfl rfl ?_
                        refine Ev.getf rfl rfl h_rd rfl ?_
                        refine Ev.iload_n rfl rfl ?_
                        refine Ev.baldN (k := l) rfl h_tp rfl ⟨(by omega), by decide⟩ ?_
                        refine Ev.cS1 rfl rfl rfl (by decide) ⟨(Nat.le_refl _), (Nat.le_refl _)⟩ (c_let_bt hc ht (by omega)) ?_
                        refine Ev.zeq (tgt := 132) rfl (by decide) (fun c123 => ?_) (fun c123 => ?_)
                        · skip
                          have hlb : ltr (U l) = false := by
                            first
                            | exact b00 c123
                            | (rw [show l = n from Nat.le_antisymm hal.2 (Nat.le_of_not_lt (fun h => c111 (nI_lt h (by omega))))]; exact ht.l)
                          have htL : tL U n e = l := tL_eq ht he hs hal.1 hlr hlb
                          refine Ev.aload_n rfl rfl ?_
                          refine Ev.iload_n rfl rfl ?_
                          refine Ev.aload_n rfl rfl ?_
                          refine Ev.getf rfl rfl h_rd rfl ?_
                          refine Ev.jle (tgt := 145) rfl (by decide) (fun c138 => ?_) (fun c138 => ?_)
                          · skip
                            have hal2 : l = a := Nat.le_antisymm (Nat.le_of_not_lt (fun h => c138 (nI_lt h (by omega)))) hal.1
                            rw [hal2] at hlb
                            have h59 : ¬ U a = 59 := fun h => c73 ((cb_eq (k := 59) hc ht han (by decide)).mpr h)
                            have htk := tok_o hs hu (b00 c98) hlb
                            refine Ev.iconst (v := 4) rfl (by decide) ?_
                            refine Ev.putE rfl rfl h_rd rfl rfl rfl (Nat.le_of_ble_eq_true rfl) (fun τ19 f1 h_rd => ?_)
                            replace h_rd : τ19.2 r = some (.inr (.inr (5, [(.ref (r + 1)), (.ref (r + 12)), (.int fa), (.int pl), (.ref b), (.int (nI n)), (.int (4 : Int32)), (.int (nI a)), (.int (nI e)), (.int va0), (.ref (r + 20)), (.int si)]))) := h_rd
                            have h_tp := frm.cell f1 h_tp (by omega)
                            have fr := fr.step f1 (by omega) (by omega)
                            refine Ev.aload_n rfl rfl ?_
                            refine Ev.iload_n rfl rfl ?_
                            refine Ev.putE rfl rfl h_rd rfl rfl rfl (Nat.le_of_ble_eq_true rfl) (fun τ20 f1 h_rd => ?_)
                            replace h_rd : τ20.2 r = some (.inr (.inr (5, [(.ref (r + 1)), (.ref (r + 12)), (.int fa), (.int pl), (.ref b), (.int (nI n)), (.int (4 : Int32)), (.int (nI a)), (.int (nI l)), (.int va0), (.ref (r + 20)), (.int si)]))) := h_rd
                            have h_tp := frm.cell f1 h_tp (by omega)
                            have fr := fr.step f1 (by omega) (by omega)
                            refine Ev.ret rfl rfl (Nat.le_refl _) (Nat.le_refl _) ?_
                            rw [← hQ]
                            rw [← hs] at h_rd
                            refine ⟨rfl, fr, _, _, _, h_rd, ?_⟩
                            exact Or.inr (Or.inr (Or.inr (Or.inr ⟨htk.1.trans (if_neg h59), rfl⟩)))
                          · skip
                            have hal2 := (nI_ltI (a := a) (b := l) (by omega) (by omega)).mp c138
                            have hla := hlr a (Nat.le_refl _) hal2
                            refine Ev.iconst (v := 1) rfl (by decide) ?_
                            refine Ev.goto (tgt := 146) rfl (by decide) ?_
                            refine Ev.putE rfl rfl h_rd rfl rfl rfl (Nat.le_of_ble_eq_true rfl) (fun τ21 f1 h_rd => ?_)
                            replace h_rd : τ21.2 r = some (.inr (.inr (5, [(.ref (r + 1)), (.ref (r + 12)), (.int fa), (.int pl), (.ref b), (.int (nI n)), (.int (1 : Int32)), (.int (nI a)), (.int (nI e)), (.int va0), (.ref (r + 20)), (.int si)]))) := h_rd
                            have h_tp := frm.cell f1 h_tp (by omega)
                            have fr := fr.step f1 (by omega) (by omega)
                            refine Ev.aload_n rfl rfl ?_
                            refine Ev.iload_n rfl rfl ?_
                            refine Ev.putE rfl rfl h_rd rfl rfl rfl (Nat.le_of_ble_eq_true rfl) (fun τ22 f1 h_rd => ?_)
                            replace h_rd : τ22.2 r = some (.inr (.inr (5, [(.ref (r + 1)), (.ref (r + 12)), (.int fa), (.int pl), (.ref b), (.int (nI n)), (.int (1 : Int32)), (.int (nI a)), (.int (nI l)), (.int va0), (.ref (r + 20)), (.int si)]))) := h_rd
                            have h_tp := frm.cell f1 h_tp (by omega)
                            have fr := fr.step f1 (by omega) (by omega)
                            refine Ev.ret rfl rfl (Nat.le_refl _) (Nat.le_refl _) ?_
                            rw [← hQ]
                            rw [← hs] at h_rd
                            refine ⟨rfl, fr, _, _, _, h_rd, ?_⟩
                            exact Or.inr (Or.inr (Or.inr (Or.inl ⟨by rw [hs]; exact hla, rfl, congrArg nI htL.symm⟩)))
                        · skip
                          have hlb := b01 c123
                          refine Ev.iinc (d := 1) rfl rfl rfl (by decide) rfl ?_
                          refine Ev.goto (tgt := 106) rfl (by decide) ?_
                          exact (ih106 (l + 1) (⟨⟨by omega, by omega⟩, up1 hlr hlb⟩) (by omega) τ106 fr h_rd h_tp).fg (gs rfl (gs (congrArg Value.int (nq_add (a := l) (b := 1) rfl (rfl : (1 : Int32) = nI 1)).symm) gz))
                  exact (hl106 _ a (⟨⟨Nat.le_refl _, hea.2⟩, fun p h1 h2 => absurd h2 (by omega)⟩) (Nat.lt_succ_self _) τ14 fr h_rd h_tp).fg (gs rfl (gs rfl gz))
                · skip
                  have hdg := b01 c98
                  refine Ev.aload_n rfl rfl ?_
                  refine Ev.xV0u rfl rfl h_rd rfl rfl (by decide) ⟨(Nat.le_refl _), (Nat.le_refl _)⟩ (scanNum_ok ht hc h_tp hbr h_rd hea.2) (fun τ9 f9 q9 => ?_)
                  obtain ⟨d, tk9, va9, h_rd, hD, hor⟩ := q9
                  have fr := fr.step f9 (by omega) (by omega)
                  have htk := tok_d hs hdg
                  have htD : tD U n e = d := by
                    unfold tD
                    rw [hs]
                    exact hD
                  refine Ev.ret rfl rfl (Nat.le_refl _) (Nat.le_refl _) ?_
                  rw [← hQ]
                  rw [← hs] at h_rd
                  refine ⟨rfl, fr, _, _, _, h_rd, ?_⟩
                  rcases hor with ⟨h3, h4, h5⟩ | ⟨h3, h4⟩
                  · refine Or.inr (Or.inl ⟨htk.1.trans (if_pos (by rw [htD]; exact h3)), h4, ?_, congrArg nI (htk.2.trans htD).symm⟩)
                    rw [h5]
                    unfold tV
                    rw [htD, hs]
                  · exact Or.inr (Or.inr (Or.inr (Or.inr ⟨htk.1.trans (if_neg (by rw [htD]; omega)), h4⟩)))
              · skip
                have h59 := (cb_eq (k := 59) hc ht han (by decide)).mp c73
                have htk := tok_o hs hu (by rw [h59]; decide) (by rw [h59]; decide)
                refine Ev.aload_n rfl rfl ?_
                refine Ev.iconst (v := 3) rfl (by decide) ?_
                refine Ev.putE rfl rfl h_rd rfl rfl rfl (Nat.le_of_ble_eq_true rfl) (fun τ23 f1 h_rd => ?_)
                replace h_rd : τ23.2 r = some (.inr (.inr (5, [(.ref (r + 1)), (.ref (r + 12)), (.int fa), (.int pl), (.ref b), (.int (nI n)), (.int (3 : Int32)), (.int (nI a)), (.int (nI e)), (.int va0), (.ref (r + 20)), (.int si)]))) := h_rd
                have h_tp := frm.cell f1 h_tp (by omega)
                have fr := fr.step f1 (by omega) (by omega)
                refine Ev.aload_n rfl rfl ?_
                refine Ev.iload_n rfl rfl ?_
                refine Ev.iconst (v := 1) rfl (by decide) ?_
                refine Ev.iadd rfl ?_
                rw [show (nI a) + (1 : Int32) = nI (a + 1) from (nq_add (a := a) (b := 1) rfl (rfl : (1 : Int32) = nI 1))]
                refine Ev.putE rfl rfl h_rd rfl rfl rfl (Nat.le_of_ble_eq_true rfl) (fun τ24 f1 h_rd => ?_)
                replace h_rd : τ24.2 r = some (.inr (.inr (5, [(.ref (r + 1)), (.ref (r + 12)), (.int fa), (.int pl), (.ref b), (.int (nI n)), (.int (3 : Int32)), (.int (nI a)), (.int (nI (a + 1))), (.int va0), (.ref (r + 20)), (.int si)]))) := h_rd
                have h_tp := frm.cell f1 h_tp (by omega)
                have fr := fr.step f1 (by omega) (by omega)
                refine Ev.ret rfl rfl (Nat.le_refl _) (Nat.le_refl _) ?_
                rw [← hQ]
                rw [← hs] at h_rd
                refine ⟨rfl, fr, _, _, _, h_rd, ?_⟩
                exact Or.inr (Or.inr (Or.inl ⟨htk.1.trans (if_pos h59), rfl, congrArg nI (show tS0 U n e + 1 = tE U n e by rw [hs]; exact htk.2.symm)⟩))
            · skip
              have hu : U a = 256 := ht.2.2 a (Nat.le_of_not_lt (fun h => c51 (nI_lt h (by omega))))
              have htk := tok_0 hs hu
              refine Ev.aload_n rfl rfl ?_
              refine Ev.iconst (v := 0) rfl (by decide) ?_
              refine Ev.putE rfl rfl h_rd rfl rfl rfl (Nat.le_of_ble_eq_true rfl) (fun τ25 f1 h_rd => ?_)
              replace h_rd : τ25.2 r = some (.inr (.inr (5, [(.ref (r + 1)), (.ref (r + 12)), (.int fa), (.int pl), (.ref b), (.int (nI n)), (.int (0 : Int32)), (.int (nI a)), (.int (nI e)), (.int va0), (.ref (r + 20)), (.int si)]))) := h_rd
              have h_tp := frm.cell f1 h_tp (by omega)
              have fr := fr.step f1 (by omega) (by omega)
              refine Ev.aload_n rfl rfl ?_
              refine Ev.iload_n rfl rfl ?_
              refine Ev.putE rfl rfl h_rd rfl rfl rfl (Nat.le_of_ble_eq_true rfl) (fun τ26 f1 h_rd => ?_)
              replace h_rd : τ26.2 r = some (.inr (.inr (5, [(.ref (r + 1)), (.ref (r + 12)), (.int fa), (.int pl), (.ref b), (.int (nI n)), (.int (0 : Int32)), (.int (nI a)), (.int (nI a)), (.int va0), (.ref (r + 20)), (.int si)]))) := h_rd
              have h_tp := frm.cell f1 h_tp (by omega)
              have fr := fr.step f1 (by omega) (by omega)
              refine Ev.ret rfl rfl (Nat.le_refl _) (Nat.le_refl _) ?_
              rw [← hQ]
              rw [← hs] at h_rd
              refine ⟨rfl, fr, _, _, _, h_rd, ?_⟩
              exact Or.inl ⟨htk.1, rfl⟩
          · skip
            have hbk : blk1 (U a) = true := blk_iff.mpr (by first | exact Or.inl ((cb_eq (k := 32) hc ht han (by decide)).mp c21) | exact Or.inr ((cb_eq (k := 10) hc ht han (by decide)).mp c32))
            refine Ev.iinc (d := 1) rfl rfl rfl (by decide) rfl ?_
            refine Ev.goto (tgt := 5) rfl (by decide) ?_
            exact (ih5 (a + 1) (⟨⟨by omega, by omega⟩, up1 hbl hbk⟩) (by omega) τ5 fr h_rd h_tp).fg (gs rfl (gs (congrArg Value.int (nq_add (a := a) (b := 1) rfl (rfl : (1 : Int32) = nI 1)).symm) gz))
  exact (hl5 _ e (⟨⟨Nat.le_refl _, he⟩, fun p h1 h2 => absurd h2 (by omega)⟩) (Nat.lt_succ_self _) σ fr h_rd h_tp).fg (gs rfl (gs rfl gz))
theorem isAt_ok {fa pl tk0 va0 si : Int32} (ht : txt U n) (hc : cbt U n c) (h_tp : σ.2 b = some (.inl (1, 600, c))) {j N : Nat} {B : Nat → Nat} (hw : wtx Γ j N B) {s t : Nat} (hst : s ≤ t) (htn : t ≤ n) (hl : ∀ p, s ≤ p → p < t → ltr (U p) = true) (h_rd : σ.2 r = some (.inr (.inr (5, [.ref (r + 1), .ref (r + 12), .int fa, .int pl, .ref b, .int (nI n), .int tk0, .int (nI s), .int (nI t), .int va0, .ref (r + 20), .int si])))) {f : Nat} (hf : f + (t - s) ≤ N) (hlB : ∀ i, i < t - s → 1 ≤ B (f + i) - 96 ∧ B (f + i) - 96 < 32) : RetV Γ m_Reader_isAt [.ref r, .ref (gS Γ j).1, .int (nI f)] σ (.int (if wvl U s (t - s) = wvl B f (t - s) then 1 else 0)) := by
  have hn6 := ht.1
  have hN := hw.2.2.1
  have hB := hw.2.2.2.2.2.1
  have hlU : ∀ i, i < t - s → 1 ≤ U (s + i) - 96 ∧ U (s + i) - 96 < 32 := fun i hi => by have := ltr_iff.mp (hl (s + i) (by omega) (by omega)); omega
  unfold RetV
  generalize hQ : ((fun (r : Option Value) (σ' : ex_S) => r = some (.int (if wvl U s (t - s) = wvl B f (t - s) then 1 else 0)) ∧ σ' = σ)) = Q
  refine Ret.start pm_129 rfl ?_
  refine Ev.aload_n rfl rfl ?_
  refine Ev.getf rfl rfl h_rd rfl ?_
  refine Ev.istore_n rfl rfl rfl ?_
  have hl5 : ∀ (m5 : Nat) (i : Nat), ((s ≤ i ∧ i ≤ t) ∧ ∀ q, s ≤ q → q < i → U q = B (f + (q - s))) → (t - i) < m5 → Ev Γ 0 0 m_Reader_isAt 0 0 5 [some (.ref r), some (.ref ((gS Γ j).1)), some (.int (nI f)), some (.int (nI i))] [] σ Q := by
    intro m5
    induction m5 with
    | zero => intro i _ hm; exact absurd hm (Nat.not_lt_zero _)
    | succ m5 ih5 =>
      intro i hJ5 hm5
      obtain ⟨hi, hq⟩ := hJ5
      refine Ev.iload_n rfl rfl ?_
      refine Ev.aload_n rfl rfl ?_
      refine Ev.getf rfl rfl h_rd rfl ?_
      refine Ev.jge (tgt := 42) rfl (by decide) (fun c10 => ?_) (fun c10 => ?_)
      · skip
        have hit : t ≤ i := Nat.le_of_not_lt (fun h => c10 (nI_lt h (by omega)))
        refine Ev.iconst (v := 1) rfl (by decide) ?_
        refine Ev.iret (ty := .boolean) rfl rfl rfl (Nat.le_refl _) (Nat.le_refl _) ?_
        have hw1 : wvl U s (t - s) = wvl B f (t - s) := wvl_cg _ (fun i hi => by have := hq (s + i) (by omega) (by omega); rw [this, show s + i - s = i by omega])
        rw [if_pos hw1] at hQ
        rw [← hQ]
        exact ⟨rfl, rfl⟩
      · skip
        have hit : i < t := (nI_ltI (a := i) (b := t) (by omega) (by omega)).mp c10
        have hin : i < n := by omega
        refine Ev.aload_n rfl rfl ?_
        refine Ev.iload_n rfl rfl ?_
        refine Ev.iload_n rfl rfl ?_
        refine Ev.iadd rfl ?_
        refine Ev.aload_n rfl rfl ?_
        refine Ev.getf rfl rfl h_rd rfl ?_
        refine Ev.isub rfl ?_
        rw [show nI f + nI i - nI s = nI (f + (i - s)) from by
          rw [nI_add, pk_sub (by omega), show f + i - s = f + (i - s) by omega]]
        obtain ⟨q0, hq0⟩ := hw.2.2.2.1
        refine Ev.cVS1 rfl rfl hq0 rfl rfl rfl ⟨(Nat.le_refl _), (Nat.le_refl _)⟩ (wtx_at hw (by omega)) ?_
        refine Ev.aload_n rfl rfl ?_
        refine Ev.getf rfl rfl h_rd rfl ?_
        refine Ev.iload_n rfl rfl ?_
        refine Ev.baldN (k := i) rfl h_tp rfl ⟨(by omega), by decide⟩ ?_
        refine Ev.jeq (tgt := 36) rfl (by decide) (fun c31 => ?_) (fun c31 => ?_)
        · skip
          have hci : U i = B (f + (i - s)) := by
            have hb := hB (f + (i - s)) (by omega)
            exact (cb_eq hc ht hin hb).mp c31.symm
          refine Ev.iinc (d := 1) rfl rfl rfl (by decide) rfl ?_
          refine Ev.goto (tgt := 5) rfl (by decide) ?_
          exact (ih5 (i + 1) (⟨⟨by omega, by omega⟩, fun q h1 h2 => by
            by_cases e : q = i
            · rw [e]; exact hci
            · exact hq q h1 (by omega)⟩) (by omega)).fg (gs rfl (gs rfl (gs rfl (gs (congrArg Value.int (nq_add (a := i) (b := 1) rfl (rfl : (1 : Int32) = nI 1)).symm) gz))))
        · skip
          refine Ev.iconst (v := 0) rfl (by decide) ?_
          refine Ev.iret (ty := .boolean) rfl rfl rfl (Nat.le_refl _) (Nat.le_refl _) ?_
          have hw1 : ¬ wvl U s (t - s) = wvl B f (t - s) := fun h => by
            have q := (wvl_inj _ _ hlU hlB h).2 (i - s) (by omega)
            rw [show s + (i - s) = i by omega] at q
            exact c31 (by rw [← q]; exact (cb_nI hc ht hin (by have := ltr_iff.mp (hl i (by omega) (by omega)); omega)).symm)
          rw [if_neg hw1] at hQ
          rw [← hQ]
          exact ⟨rfl, rfl⟩
  exact (hl5 _ s (⟨⟨Nat.le_refl _, hst⟩, fun q h1 h2 => absurd h2 (by omega)⟩) (Nat.lt_succ_self _)).fg (gs rfl (gs rfl (gs rfl (gs rfl gz))))
theorem wci_le (B : Nat → Nat) : ∀ i, wci B i ≤ i
  | 0 => Nat.le_refl _
  | i + 1 => by
    have := wci_le B i
    show (if B i = 32 then wci B i + 1 else wci B i) ≤ i + 1
    split <;> omega
/-- no word before place i is the token -/
def wst1 (U : Nat → Nat) (s t : Nat) (B : Nat → Nat) (N i w f : Nat) : Prop := i ≤ N ∧ w = wci B i ∧ f = wfi B i ∧ ∀ q, q < i → B q = 32 → ¬ wvl U s (t - s) = wvl B (wfi B q) (q - wfi B q)
theorem wst_n {s t N i w f : Nat} {B : Nat → Nat} (h : wst1 U s t B N i w f) (hi : i < N) (h32 : ¬ B i = 32) : wst1 U s t B N (i + 1) w f := by
  obtain ⟨h1, h2, h3, h4⟩ := h
  refine ⟨by omega, ?_, ?_, fun q hq hb => ?_⟩
  · show w = if B i = 32 then wci B i + 1 else wci B i
    rw [if_neg h32]
    exact h2
  · show f = if B i = 32 then i + 1 else wfi B i
    rw [if_neg h32]
    exact h3
  · by_cases e : q = i
    · rw [e] at hb
      exact absurd hb h32
    · exact h4 q (by omega) hb
theorem wst_y {s t N i w f : Nat} {B : Nat → Nat} (h : wst1 U s t B N i w f) (hi : i < N) (h32 : B i = 32) (hn : ¬ wvl U s (t - s) = wvl B f (i - f)) : wst1 U s t B N (i + 1) (w + 1) (i + 1) := by
  obtain ⟨h1, h2, h3, h4⟩ := h
  refine ⟨by omega, ?_, ?_, fun q hq hb => ?_⟩
  · show w + 1 = if B i = 32 then wci B i + 1 else wci B i
    rw [if_pos h32, h2]
  · show i + 1 = if B i = 32 then i + 1 else wfi B i
    rw [if_pos h32]
  · by_cases e : q = i
    · rw [e, ← h3]
      exact hn
    · exact h4 q (by omega) hb
theorem wordIn_ok {fa pl tk0 va0 si : Int32} (ht : txt U n) (hc : cbt U n c) (h_tp : σ.2 b = some (.inl (1, 600, c))) {j N : Nat} {B : Nat → Nat} (hw : wtx Γ j N B) {s t : Nat} (hst : s ≤ t) (htn : t ≤ n) (hl : ∀ p, s ≤ p → p < t → ltr (U p) = true) (h_rd : σ.2 r = some (.inr (.inr (5, [.ref (r + 1), .ref (r + 12), .int fa, .int pl, .ref b, .int (nI n), .int tk0, .int (nI s), .int (nI t), .int va0, .ref (r + 20), .int si])))) {v : Int32} (hv1 : ∀ q, q < N → B q = 32 → wvl U s (t - s) = wvl B (wfi B q) (q - wfi B q) → v = nI (wci B q)) (hv0 : (∀ q, q < N → B q = 32 → ¬ wvl U s (t - s) = wvl B (wfi B q) (q - wfi B q)) → v = -1) : RetV Γ m_Reader_wordIn [.ref r, .ref (gS Γ j).1] σ (.int v) := by
  have hn6 := ht.1
  have hN := hw.2.2.1
  have hlU : ∀ i, i < t - s → 1 ≤ U (s + i) - 96 ∧ U (s + i) - 96 < 32 := fun i hi => by have := ltr_iff.mp (hl (s + i) (by omega) (by omega)); omega
  unfold RetV
  generalize hQ : ((fun (r : Option Value) (σ' : ex_S) => r = some (.int v) ∧ σ' = σ)) = Q
  refine Ret.start pm_128 rfl ?_
  refine Ev.iconst (v := 0) rfl (by decide) ?_
  refine Ev.istore_n rfl rfl rfl ?_
  refine Ev.iconst (v := 0) rfl (by decide) ?_
  refine Ev.istore_n rfl rfl rfl ?_
  refine Ev.iconst (v := 0) rfl (by decide) ?_
  refine Ev.istore rfl rfl rfl ?_
  have hl7 : ∀ (m7 : Nat) (i : Nat) (w : Nat) (f : Nat), (wst1 U s t B N i w f) → (N - i) < m7 → Ev Γ 0 0 m_Reader_wordIn 0 0 7 [some (.ref r), some (.ref ((gS Γ j).1)), some (.int (nI w)), some (.int (nI f)), some (.int (nI i))] [] σ Q := by
    intro m7
    induction m7 with
    | zero => intro i w f _ hm; exact absurd hm (Nat.not_lt_zero _)
    | succ m7 ih7 =>
      intro i w f hJ7 hm7
      obtain ⟨hi0, hwe, hfe, hno⟩ := id hJ7
      have hfl : f ≤ i := by rw [hfe]; exact wfi_le B i
      have hwl : w ≤ i := by rw [hwe]; exact wci_le B i
      refine Ev.iload rfl rfl ?_
      refine Ev.aload_n rfl rfl ?_
      obtain ⟨q0, hq0⟩ := hw.2.2.2.1
      refine Ev.cVS0 rfl rfl hq0 rfl rfl rfl ⟨(Nat.le_refl _), (Nat.le_refl _)⟩ (wtx_len hw) ?_
      refine Ev.jge (tgt := 68) rfl (by decide) (fun c13 => ?_) (fun c13 => ?_)
      · skip
        refine Ev.iconst (v := (-1)) rfl (by decide) ?_
        refine Ev.iret (ty := .int) rfl rfl rfl (Nat.le_refl _) (Nat.le_refl _) ?_
        have hiN : N ≤ i := Nat.le_of_not_lt (fun h => c13 (nI_lt h (by omega)))
        rw [hv0 (fun q hq => hno q (by omega))] at hQ
        rw [← hQ]
        exact ⟨rfl, rfl⟩
      · skip
        have hiN : i < N := (nI_ltI (a := i) (b := N) (by omega) (by omega)).mp c13
        refine Ev.aload_n rfl rfl ?_
        refine Ev.iload rfl rfl ?_
        refine Ev.cVS1 rfl rfl hq0 rfl rfl rfl ⟨(Nat.le_refl _), (Nat.le_refl _)⟩ (wtx_at hw hiN) ?_
        refine Ev.bipush (v := 32) rfl (by decide) ?_
        refine Ev.jne (tgt := 62) rfl (by decide) (fun c24 => ?_) (fun c24 => ?_)
        · skip
          have h32 : ¬ B i = 32 := fun h => c24 (congrArg nI h)
          skip
          refine Ev.iinc (d := 1) rfl rfl rfl (by decide) rfl ?_
          refine Ev.goto (tgt := 7) rfl (by decide) ?_
          exact (ih7 (i + 1) w f (wst_n hJ7 hiN h32) (by omega)).fg (gs rfl (gs rfl (gs rfl (gs rfl (gs (congrArg Value.int (nq_add (a := i) (b := 1) rfl (rfl : (1 : Int32) = nI 1)).symm) gz)))))
        · skip
          have h32 : B i = 32 := nI_injL (b := 32) (by have := hw.2.2.2.2.2.1 i hiN; omega) (by decide) c24
          obtain ⟨hfi, hlf⟩ := hw.2.2.2.2.2.2 i hiN h32
          rw [← hfe] at hfi hlf
          refine Ev.iload rfl rfl ?_
          refine Ev.iload_n rfl rfl ?_
          refine Ev.isub rfl ?_
          rw [show (nI i) - (nI f) = nI (i - f) from (nq_sub (a := i) (b := f) rfl rfl (by omega))]
          refine Ev.aload_n rfl rfl ?_
          refine Ev.getf rfl rfl h_rd rfl ?_
          refine Ev.aload_n rfl rfl ?_
          refine Ev.getf rfl rfl h_rd rfl ?_
          refine Ev.isub rfl ?_
          rw [show (nI t) - (nI s) = nI (t - s) from (nq_sub (a := t) (b := s) rfl rfl (by omega))]
          refine Ev.jne (tgt := 54) rfl (by decide) (fun c40 => ?_) (fun c40 => ?_)
          · skip
            have hnm : ¬ wvl U s (t - s) = wvl B f (i - f) := by
              first
              | exact fun h => c40 (by rw [(wvl_inj _ _ hlU (fun k hk => by have := hlf (f + k) (by omega) (by omega); omega) h).1])
              | (intro h; rw [← hle] at h; rw [if_pos h] at c49; exact absurd c49 (by decide))
            refine Ev.iinc (d := 1) rfl rfl rfl (by decide) rfl ?_
            refine Ev.iload rfl rfl ?_
            refine Ev.iconst (v := 1) rfl (by decide) ?_
            refine Ev.iadd rfl ?_
            refine Ev.istore_n rfl rfl rfl ?_
            skip
            refine Ev.iinc (d := 1) rfl rfl rfl (by decide) rfl ?_
            refine Ev.goto (tgt := 7) rfl (by decide) ?_
            exact (ih7 (i + 1) (w + 1) (i + 1) (wst_y hJ7 hiN h32 hnm) (by omega)).fg (gs rfl (gs rfl (gs (congrArg Value.int (nq_add (a := w) (b := 1) rfl (rfl : (1 : Int32) = nI 1)).symm) (gs (congrArg Value.int (nq_add (a := i) (b := 1) rfl (rfl : (1 : Int32) = nI 1)).symm) (gs (congrArg Value.int (nq_add (a := i) (b := 1) rfl (rfl : (1 : Int32) = nI 1)).symm) gz)))))
          · skip
            have hle : t - s = i - f := (nI_injL (by omega) (by omega) c40).symm
            have hlB : ∀ k, k < t - s → 1 ≤ B (f + k) - 96 ∧ B (f + k) - 96 < 32 := fun k hk => by have := hlf (f + k) (by omega) (by omega); omega
            refine Ev.aload_n rfl rfl ?_
            refine Ev.aload_n rfl rfl ?_
            refine Ev.iload_n rfl rfl ?_
            refine Ev.cV2 rfl rfl h_rd rfl rfl (by decide) ⟨(Nat.le_refl _), (Nat.le_refl _)⟩ (isAt_ok ht hc h_tp hw hst htn hl h_rd (f := f) (by omega) hlB) ?_
            refine Ev.zeq (tgt := 54) rfl (by decide) (fun c49 => ?_) (fun c49 => ?_)
            · skip
              have hnm : ¬ wvl U s (t - s) = wvl B f (i - f) := by
                first
                | exact fun h => c40 (by rw [(wvl_inj _ _ hlU (fun k hk => by have := hlf (f + k) (by omega) (by omega); omega) h).1])
                | (intro h; rw [← hle] at h; rw [if_pos h] at c49; exact absurd c49 (by decide))
              refine Ev.iinc (d := 1) rfl rfl rfl (by decide) rfl ?_
              refine Ev.iload rfl rfl ?_
              refine Ev.iconst (v := 1) rfl (by decide) ?_
              refine Ev.iadd rfl ?_
              refine Ev.istore_n rfl rfl rfl ?_
              skip
              refine Ev.iinc (d := 1) rfl rfl rfl (by decide) rfl ?_
              refine Ev.goto (tgt := 7) rfl (by decide) ?_
              exact (ih7 (i + 1) (w + 1) (i + 1) (wst_y hJ7 hiN h32 hnm) (by omega)).fg (gs rfl (gs rfl (gs (congrArg Value.int (nq_add (a := w) (b := 1) rfl (rfl : (1 : Int32) = nI 1)).symm) (gs (congrArg Value.int (nq_add (a := i) (b := 1) rfl (rfl : (1 : Int32) = nI 1)).symm) (gs (congrArg Value.int (nq_add (a := i) (b := 1) rfl (rfl : (1 : Int32) = nI 1)).symm) gz)))))
            · skip
              have hmt : wvl U s (t - s) = wvl B f (t - s) := by
                by_cases h : wvl U s (t - s) = wvl B f (t - s)
                · exact h
                · rw [if_neg h] at c49; exact absurd rfl c49
              refine Ev.iload_n rfl rfl ?_
              refine Ev.iret (ty := .int) rfl rfl rfl (Nat.le_refl _) (Nat.le_refl _) ?_
              rw [hv1 i hiN h32 (by rw [← hfe, ← hle]; exact hmt), ← hwe] at hQ
              rw [← hQ]
              exact ⟨rfl, rfl⟩
  exact (hl7 _ 0 0 0 (⟨Nat.zero_le _, rfl, rfl, fun q h => absurd h (Nat.not_lt_zero _)⟩) (Nat.lt_succ_self _)).fg (gs rfl (gs rfl (gs (congrArg Value.int (rfl : (0 : Int32) = nI 0).symm) (gs (congrArg Value.int (rfl : (0 : Int32) = nI 0).symm) (gs (congrArg Value.int (rfl : (0 : Int32) = nI 0).symm) gz)))))
end
end
