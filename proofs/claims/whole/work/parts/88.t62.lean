/-! Texts: both sides; refused texts. -/
noncomputable section
theorem tx_isT {σ τ : ex_S} {q : Nat} {T : Tol} {f p : Int32} (h : isT σ q T) (ho : τ.2 q = some (.inr (.inr (1, [.ref (q + 1), .int (nI 0), .int f, .int p, .ref (q + 2), .int (nI (tSn T)), .ref (q + 3), .int (nI (tPn T))])))) (hk : ∀ j, q < j → j < q + 61 → τ.2 j = σ.2 j) : isT τ q (T_tx T f p) := by
  obtain ⟨t0, t1, ⟨fs, t2, t3⟩, ⟨fp, t4, t5⟩, t6, t7⟩ := h
  exact ⟨ho, (hk _ (by omega) (by omega)).trans t1, ⟨fs, (hk _ (by omega) (by omega)).trans t2, t3⟩, ⟨fp, (hk _ (by omega) (by omega)).trans t4, t5⟩, fun k h3 => (t6 k h3).of (fun j a b => hk j (by omega) (by omega)), fun k h3 => (t7 k h3).of (fun j a b => hk j (by omega) (by omega))⟩
theorem InvC.tx {σ τ : ex_S} {x : Nat} {T T' : Tol} {I : Nat → Option Tol} (h : InvC σ x T I) (hf : frm σ τ (x + 1) (x + 84)) (h62 : τ.2 (x + 62) = σ.2 (x + 62)) (hT : isT τ (x + 1) T') (hR : cR τ x) : InvC τ x T' I := by
  obtain ⟨υ, hυ⟩ : ∃ υ : ex_S, υ = (σ.1, fun q => if x + 1 ≤ q ∧ q < x + 62 then τ.2 q else σ.2 q) := ⟨_, rfl⟩
  have u1 : υ.1 = σ.1 := by rw [hυ]
  have u2 : ∀ q, υ.2 q = if x + 1 ≤ q ∧ q < x + 62 then τ.2 q else σ.2 q := fun q => by rw [hυ]
  have f1 : frm σ υ (x + 1) (x + 62) := ⟨u1, fun q hq => by rw [u2, if_neg (by omega)]⟩
  have hu : ∀ q, q < x + 63 ∨ x + 84 ≤ q → τ.2 q = υ.2 q := fun q hq => by
    rw [u2]
    by_cases c : x + 1 ≤ q ∧ q < x + 62
    · rw [if_pos c]
    · rw [if_neg c]
      by_cases d : q = x + 62
      · subst d
        exact h62
      · exact hf.2 q (by omega)
  have f2 : frm υ τ (x + 63) (x + 84) := ⟨hf.1.trans u1.symm, fun q hq => hu q hq⟩
  have f3 : frm τ υ (x + 63) (x + 84) := ⟨u1.trans hf.1.symm, fun q hq => (hu q hq).symm⟩
  exact (h.upT f1 (hT.frm f3 (by omega))).upcR f2 hR
/-- the text's bytes -/
def txU (T : Tol) : Nat → Nat := fun p => if p < tN T then (tB T p &&& 255).toNatClampNeg else 256
theorem byte_at : ∀ k : Nat, k < 256 → (Int32.ofInt ((k : Int) - 128) &&& 255).toNatClampNeg < 256 ∧ Int32.ofInt ((k : Int) - 128) &&& 255 = nI (Int32.ofInt ((k : Int) - 128) &&& 255).toNatClampNeg ∧ (Int32.ofInt ((k : Int) - 128)).toInt = if (Int32.ofInt ((k : Int) - 128) &&& 255).toNatClampNeg < 128 then (((Int32.ofInt ((k : Int) - 128) &&& 255).toNatClampNeg : Nat) : Int) else (((Int32.ofInt ((k : Int) - 128) &&& 255).toNatClampNeg : Nat) : Int) - 256 := by decide +kernel
theorem byte_ok {c : Int32} (h : rg c (-128) 127) : (c &&& 255).toNatClampNeg < 256 ∧ c &&& 255 = nI (c &&& 255).toNatClampNeg ∧ c.toInt = if (c &&& 255).toNatClampNeg < 128 then (((c &&& 255).toNatClampNeg : Nat) : Int) else (((c &&& 255).toNatClampNeg : Nat) : Int) - 256 := by
  obtain ⟨h1, h2⟩ := h
  have e : c = Int32.ofInt (((c.toInt + 128).toNat : Int) - 128) := by
    rw [Int.toNat_of_nonneg (by omega), show c.toInt + 128 - 128 = c.toInt by omega, Int32.ofInt_toInt]
  have := byte_at (c.toInt + 128).toNat (by omega)
  rw [← e] at this
  exact this
theorem txU_txt {T : Tol} (hw : wT T) (hf : fitT T) : txt (txU T) (tN T) ∧ cbt (txU T) (tN T) (tB T) ∧ ∀ p, p < tN T → tB T p &&& 255 = nI (txU T p) := by
  have hn := hw.1
  have e : ∀ p, p < tN T → txU T p = (tB T p &&& 255).toNatClampNeg := fun p hp => if_pos hp
  refine ⟨⟨hn, fun p hp => ?_, fun p hp => if_neg (by omega)⟩, fun p hp => ?_, fun p hp => ?_⟩
  · rw [e p hp]
    exact (byte_ok (hf p (by omega))).1
  · rw [e p hp]
    exact (byte_ok (hf p (by omega))).2.2
  · rw [e p hp]
    exact (byte_ok (hf p (by omega))).2.1
theorem K_in_01 {s : Int32} (h0 : ¬ s = 0) (h1 : ¬ s = 1) : K_in s 0 1 = 0 := by
  refine K_in_bad ?_
  rw [lt_toInt, lt_toInt, show (0 : Int32).toInt = 0 from by decide, show (1 : Int32).toInt = 1 from by decide]
  have a : ¬ s.toInt = 0 := fun e => h0 (Int32.toInt_inj.mp (e.trans (by decide)))
  have b : ¬ s.toInt = 1 := fun e => h1 (Int32.toInt_inj.mp (e.trans (by decide)))
  omega
section
variable {Γ : ex_G} {σ : ex_S} {x y : Nat} {T : Tol} {g A : Nat → Int32}
theorem txN_s (hX : isX σ x) (hT : isT σ (x + 1) T) (hw : wT T) {w : Int32} (hp : plx w (tSn T)) : RetX Γ m_SD_text [.ref x, .int 0, .int w] σ (x + 1) (x + 2) (some (.int (-2))) (fun τ => isT τ (x + 1) (T_tx T 0 (-1)) ∧ τ.2 (x + 62) = σ.2 (x + 62)) := by
  unfold isX at hX
  obtain ⟨r, hr⟩ : ∃ r, r = x + 63 := ⟨_, rfl⟩
  rw [← hr] at hX
  obtain ⟨n, hn⟩ : ∃ n, n = tN T := ⟨_, rfl⟩
  have hn6 : n ≤ 600 := by rw [hn]; exact hw.1
  have h_st : σ.2 (x + 1) = some (.inr (.inr (1, [(.ref (x + 1 + 1)), (.int (nI n)), (.int (tF T)), (.int (tQ T)), (.ref (x + 1 + 2)), (.int (nI (tSn T))), (.ref (x + 1 + 3)), (.int (nI (tPn T)))]))) := by
    rw [hn]
    exact hT.1
  unfold RetX
  generalize hQ : ((fun (r0 : Option Value) (τ : ex_S) => r0 = some (.int (-2)) ∧ frm σ τ (x + 1) (x + 2) ∧ (fun τ : ex_S => isT τ (x + 1) (T_tx T 0 (-1)) ∧ τ.2 (x + 62) = σ.2 (x + 62)) τ)) = Q
  refine Ret.start pm_4 rfl ?_
  have fr : frm σ σ (x + 1) (x + 2) := frm.rf
  have kq : ∀ j, x + 1 < j → j < x + 62 → σ.2 j = σ.2 j := fun _ _ _ => rfl
  have h62 : σ.2 (x + 62) = σ.2 (x + 62) := rfl
  refine Ev.iload_n rfl rfl ?_
  refine Ev.zne (tgt := 18) rfl (by decide) (fun c1 => absurd (by decide) c1) (fun c1 => ?_)
  refine Ev.iload_n rfl rfl ?_
  refine Ev.aload_n rfl rfl ?_
  refine Ev.getf rfl rfl hX rfl ?_
  refine Ev.getf rfl rfl h_st rfl ?_
  refine Ev.cS2 rfl rfl rfl (by decide) ⟨(Nat.le_refl _), (Nat.le_refl _)⟩ (place_no hp hw.2.1) ?_
  refine Ev.goto (tgt := 38) rfl (by decide) ?_
  refine Ev.istore_n rfl rfl rfl ?_
  refine Ev.aload_n rfl rfl ?_
  refine Ev.getf rfl rfl hX rfl ?_
  refine Ev.iconst (v := 0) rfl (by decide) ?_
  refine Ev.putE rfl rfl h_st rfl rfl rfl (Nat.le_of_ble_eq_true rfl) (fun τ1 f1 h_st => ?_)
  replace h_st : τ1.2 (x + 1) = some (.inr (.inr (1, [(.ref (x + 1 + 1)), (.int (nI n)), (.int (0 : Int32)), (.int (tQ T)), (.ref (x + 1 + 2)), (.int (nI (tSn T))), (.ref (x + 1 + 3)), (.int (nI (tPn T)))]))) := h_st
  have hX := frm.cell f1 hX (by omega)
  have kq := fun j a b => (f1.2 j (by omega)).trans (kq j a b)
  have h62 := frm.cell f1 h62 (by omega)
  have fr := fr.step f1 (by omega) (by omega)
  refine Ev.aload_n rfl rfl ?_
  refine Ev.getf rfl rfl hX rfl ?_
  refine Ev.iconst (v := (-1)) rfl (by decide) ?_
  refine Ev.putE rfl rfl h_st rfl rfl rfl (Nat.le_of_ble_eq_true rfl) (fun τ2 f1 h_st => ?_)
  replace h_st : τ2.2 (x + 1) = some (.inr (.inr (1, [(.ref (x + 1 + 1)), (.int (nI n)), (.int (0 : Int32)), (.int (-1 : Int32)), (.ref (x + 1 + 2)), (.int (nI (tSn T))), (.ref (x + 1 + 3)), (.int (nI (tPn T)))]))) := h_st
  have hX := frm.cell f1 hX (by omega)
  have kq := fun j a b => (f1.2 j (by omega)).trans (kq j a b)
  have h62 := frm.cell f1 h62 (by omega)
  have fr := fr.step f1 (by omega) (by omega)
  refine Ev.aload_n rfl rfl ?_
  refine Ev.getf rfl rfl hX rfl ?_
  refine Ev.getf rfl rfl h_st rfl ?_
  refine Ev.istore rfl rfl rfl ?_
  refine Ev.aload_n rfl rfl ?_
  refine Ev.getf rfl rfl hX rfl ?_
  refine Ev.iconst (v := 0) rfl (by decide) ?_
  refine Ev.putE rfl rfl h_st rfl rfl rfl (Nat.le_of_ble_eq_true rfl) (fun τ3 f1 h_st => ?_)
  replace h_st : τ3.2 (x + 1) = some (.inr (.inr (1, [(.ref (x + 1 + 1)), (.int (0 : Int32)), (.int (0 : Int32)), (.int (-1 : Int32)), (.ref (x + 1 + 2)), (.int (nI (tSn T))), (.ref (x + 1 + 3)), (.int (nI (tPn T)))]))) := h_st
  have hX := frm.cell f1 hX (by omega)
  have kq := fun j a b => (f1.2 j (by omega)).trans (kq j a b)
  have h62 := frm.cell f1 h62 (by omega)
  have fr := fr.step f1 (by omega) (by omega)
  refine Ev.iload_n rfl rfl ?_
  refine Ev.iconst (v := (-1)) rfl (by decide) ?_
  refine Ev.jne (tgt := 80) rfl (by decide) (fun c74 => absurd (by decide) c74) (fun c74 => ?_)
  refine Ev.bipush (v := (-2)) rfl (by decide) ?_
  refine Ev.iret (ty := .int) rfl rfl rfl (Nat.le_refl _) (Nat.le_refl _) ?_
  rw [← hQ]
  exact ⟨rfl, fr, tx_isT hT h_st (fun j a b => kq j a (by omega)), h62⟩
theorem txN_p (hX : isX σ x) (hT : isT σ (x + 1) T) (hw : wT T) {w : Int32} (hp : plx w (tPn T)) : RetX Γ m_SD_text [.ref x, .int 1, .int w] σ (x + 1) (x + 2) (some (.int (-2))) (fun τ => isT τ (x + 1) (T_tx T 0 (-1)) ∧ τ.2 (x + 62) = σ.2 (x + 62)) := by
  unfold isX at hX
  obtain ⟨r, hr⟩ : ∃ r, r = x + 63 := ⟨_, rfl⟩
  rw [← hr] at hX
  obtain ⟨n, hn⟩ : ∃ n, n = tN T := ⟨_, rfl⟩
  have hn6 : n ≤ 600 := by rw [hn]; exact hw.1
  have h_st : σ.2 (x + 1) = some (.inr (.inr (1, [(.ref (x + 1 + 1)), (.int (nI n)), (.int (tF T)), (.int (tQ T)), (.ref (x + 1 + 2)), (.int (nI (tSn T))), (.ref (x + 1 + 3)), (.int (nI (tPn T)))]))) := by
    rw [hn]
    exact hT.1
  unfold RetX
  generalize hQ : ((fun (r0 : Option Value) (τ : ex_S) => r0 = some (.int (-2)) ∧ frm σ τ (x + 1) (x + 2) ∧ (fun τ : ex_S => isT τ (x + 1) (T_tx T 0 (-1)) ∧ τ.2 (x + 62) = σ.2 (x + 62)) τ)) = Q
  refine Ret.start pm_4 rfl ?_
  have fr : frm σ σ (x + 1) (x + 2) := frm.rf
  have kq : ∀ j, x + 1 < j → j < x + 62 → σ.2 j = σ.2 j := fun _ _ _ => rfl
  have h62 : σ.2 (x + 62) = σ.2 (x + 62) := rfl
  refine Ev.iload_n rfl rfl ?_
  refine Ev.zne (tgt := 18) rfl (by decide) (fun c1 => ?_) (fun c1 => absurd c1 (by decide))
  refine Ev.iload_n rfl rfl ?_
  refine Ev.iconst (v := 1) rfl (by decide) ?_
  refine Ev.jne (tgt := 37) rfl (by decide) (fun c20 => absurd (by decide) c20) (fun c20 => ?_)
  refine Ev.iload_n rfl rfl ?_
  refine Ev.aload_n rfl rfl ?_
  refine Ev.getf rfl rfl hX rfl ?_
  refine Ev.getf rfl rfl h_st rfl ?_
  refine Ev.cS2 rfl rfl rfl (by decide) ⟨(Nat.le_refl _), (Nat.le_refl _)⟩ (place_no hp hw.2.2.1) ?_
  refine Ev.goto (tgt := 38) rfl (by decide) ?_
  refine Ev.istore_n rfl rfl rfl ?_
  refine Ev.aload_n rfl rfl ?_
  refine Ev.getf rfl rfl hX rfl ?_
  refine Ev.iconst (v := 0) rfl (by decide) ?_
  refine Ev.putE rfl rfl h_st rfl rfl rfl (Nat.le_of_ble_eq_true rfl) (fun τ1 f1 h_st => ?_)
  replace h_st : τ1.2 (x + 1) = some (.inr (.inr (1, [(.ref (x + 1 + 1)), (.int (nI n)), (.int (0 : Int32)), (.int (tQ T)), (.ref (x + 1 + 2)), (.int (nI (tSn T))), (.ref (x + 1 + 3)), (.int (nI (tPn T)))]))) := h_st
  have hX := frm.cell f1 hX (by omega)
  have kq := fun j a b => (f1.2 j (by omega)).trans (kq j a b)
  have h62 := frm.cell f1 h62 (by omega)
  have fr := fr.step f1 (by omega) (by omega)
  refine Ev.aload_n rfl rfl ?_
  refine Ev.getf rfl rfl hX rfl ?_
  refine Ev.iconst (v := (-1)) rfl (by decide) ?_
  refine Ev.putE rfl rfl h_st rfl rfl rfl (Nat.le_of_ble_eq_true rfl) (fun τ2 f1 h_st => ?_)
  replace h_st : τ2.2 (x + 1) = some (.inr (.inr (1, [(.ref (x + 1 + 1)), (.int (nI n)), (.int (0 : Int32)), (.int (-1 : Int32)), (.ref (x + 1 + 2)), (.int (nI (tSn T))), (.ref (x + 1 + 3)), (.int (nI (tPn T)))]))) := h_st
  have hX := frm.cell f1 hX (by omega)
  have kq := fun j a b => (f1.2 j (by omega)).trans (kq j a b)
  have h62 := frm.cell f1 h62 (by omega)
  have fr := fr.step f1 (by omega) (by omega)
  refine Ev.aload_n rfl rfl ?_
  refine Ev.getf rfl rfl hX rfl ?_
  refine Ev.getf rfl rfl h_st rfl ?_
  refine Ev.istore rfl rfl rfl ?_
  refine Ev.aload_n rfl rfl ?_
  refine Ev.getf rfl rfl hX rfl ?_
  refine Ev.iconst (v := 0) rfl (by decide) ?_
  refine Ev.putE rfl rfl h_st rfl rfl rfl (Nat.le_of_ble_eq_true rfl) (fun τ3 f1 h_st => ?_)
  replace h_st : τ3.2 (x + 1) = some (.inr (.inr (1, [(.ref (x + 1 + 1)), (.int (0 : Int32)), (.int (0 : Int32)), (.int (-1 : Int32)), (.ref (x + 1 + 2)), (.int (nI (tSn T))), (.ref (x + 1 + 3)), (.int (nI (tPn T)))]))) := h_st
  have hX := frm.cell f1 hX (by omega)
  have kq := fun j a b => (f1.2 j (by omega)).trans (kq j a b)
  have h62 := frm.cell f1 h62 (by omega)
  have fr := fr.step f1 (by omega) (by omega)
  refine Ev.iload_n rfl rfl ?_
  refine Ev.iconst (v := (-1)) rfl (by decide) ?_
  refine Ev.jne (tgt := 80) rfl (by decide) (fun c74 => absurd (by decide) c74) (fun c74 => ?_)
  refine Ev.bipush (v := (-2)) rfl (by decide) ?_
  refine Ev.iret (ty := .int) rfl rfl rfl (Nat.le_refl _) (Nat.le_refl _) ?_
  rw [← hQ]
  exact ⟨rfl, fr, tx_isT hT h_st (fun j a b => kq j a (by omega)), h62⟩
theorem txN_o (hX : isX σ x) (hT : isT σ (x + 1) T) (hw : wT T) {w : Int32} {s : Int32} (hs0 : ¬ s = 0) (hs1 : ¬ s = 1) : RetX Γ m_SD_text [.ref x, .int s, .int w] σ (x + 1) (x + 2) (some (.int (-2))) (fun τ => isT τ (x + 1) (T_tx T 0 (-1)) ∧ τ.2 (x + 62) = σ.2 (x + 62)) := by
  unfold isX at hX
  obtain ⟨r, hr⟩ : ∃ r, r = x + 63 := ⟨_, rfl⟩
  rw [← hr] at hX
  obtain ⟨n, hn⟩ : ∃ n, n = tN T := ⟨_, rfl⟩
  have hn6 : n ≤ 600 := by rw [hn]; exact hw.1
  have h_st : σ.2 (x + 1) = some (.inr (.inr (1, [(.ref (x + 1 + 1)), (.int (nI n)), (.int (tF T)), (.int (tQ T)), (.ref (x + 1 + 2)), (.int (nI (tSn T))), (.ref (x + 1 + 3)), (.int (nI (tPn T)))]))) := by
    rw [hn]
    exact hT.1
  unfold RetX
  generalize hQ : ((fun (r0 : Option Value) (τ : ex_S) => r0 = some (.int (-2)) ∧ frm σ τ (x + 1) (x + 2) ∧ (fun τ : ex_S => isT τ (x + 1) (T_tx T 0 (-1)) ∧ τ.2 (x + 62) = σ.2 (x + 62)) τ)) = Q
  refine Ret.start pm_4 rfl ?_
  have fr : frm σ σ (x + 1) (x + 2) := frm.rf
  have kq : ∀ j, x + 1 < j → j < x + 62 → σ.2 j = σ.2 j := fun _ _ _ => rfl
  have h62 : σ.2 (x + 62) = σ.2 (x + 62) := rfl
  refine Ev.iload_n rfl rfl ?_
  refine Ev.zne (tgt := 18) rfl (by decide) (fun c1 => ?_) (fun c1 => absurd c1 hs0)
  refine Ev.iload_n rfl rfl ?_
  refine Ev.iconst (v := 1) rfl (by decide) ?_
  refine Ev.jne (tgt := 37) rfl (by decide) (fun c20 => ?_) (fun c20 => absurd c20 hs1)
  refine Ev.iconst (v := (-1)) rfl (by decide) ?_
  refine Ev.istore_n rfl rfl rfl ?_
  refine Ev.aload_n rfl rfl ?_
  refine Ev.getf rfl rfl hX rfl ?_
  refine Ev.iconst (v := 0) rfl (by decide) ?_
  refine Ev.putE rfl rfl h_st rfl rfl rfl (Nat.le_of_ble_eq_true rfl) (fun τ1 f1 h_st => ?_)
  replace h_st : τ1.2 (x + 1) = some (.inr (.inr (1, [(.ref (x + 1 + 1)), (.int (nI n)), (.int (0 : Int32)), (.int (tQ T)), (.ref (x + 1 + 2)), (.int (nI (tSn T))), (.ref (x + 1 + 3)), (.int (nI (tPn T)))]))) := h_st
  have hX := frm.cell f1 hX (by omega)
  have kq := fun j a b => (f1.2 j (by omega)).trans (kq j a b)
  have h62 := frm.cell f1 h62 (by omega)
  have fr := fr.step f1 (by omega) (by omega)
  refine Ev.aload_n rfl rfl ?_
  refine Ev.getf rfl rfl hX rfl ?_
  refine Ev.iconst (v := (-1)) rfl (by decide) ?_
  refine Ev.putE rfl rfl h_st rfl rfl rfl (Nat.le_of_ble_eq_true rfl) (fun τ2 f1 h_st => ?_)
  replace h_st : τ2.2 (x + 1) = some (.inr (.inr (1, [(.ref (x + 1 + 1)), (.int (nI n)), (.int (0 : Int32)), (.int (-1 : Int32)), (.ref (x + 1 + 2)), (.int (nI (tSn T))), (.ref (x + 1 + 3)), (.int (nI (tPn T)))]))) := h_st
  have hX := frm.cell f1 hX (by omega)
  have kq := fun j a b => (f1.2 j (by omega)).trans (kq j a b)
  have h62 := frm.cell f1 h62 (by omega)
  have fr := fr.step f1 (by omega) (by omega)
  refine Ev.aload_n rfl rfl ?_
  refine Ev.getf rfl rfl hX rfl ?_
  refine Ev.getf rfl rfl h_st rfl ?_
  refine Ev.istore rfl rfl rfl ?_
  refine Ev.aload_n rfl rfl ?_
  refine Ev.getf rfl rfl hX rfl ?_
  refine Ev.iconst (v := 0) rfl (by decide) ?_
  refine Ev.putE rfl rfl h_st rfl rfl rfl (Nat.le_of_ble_eq_true rfl) (fun τ3 f1 h_st => ?_)
  replace h_st : τ3.2 (x + 1) = some (.inr (.inr (1, [(.ref (x + 1 + 1)), (.int (0 : Int32)), (.int (0 : Int32)), (.int (-1 : Int32)), (.ref (x + 1 + 2)), (.int (nI (tSn T))), (.ref (x + 1 + 3)), (.int (nI (tPn T)))]))) := h_st
  have hX := frm.cell f1 hX (by omega)
  have kq := fun j a b => (f1.2 j (by omega)).trans (kq j a b)
  have h62 := frm.cell f1 h62 (by omega)
  have fr := fr.step f1 (by omega) (by omega)
  refine Ev.iload_n rfl rfl ?_
  refine Ev.iconst (v := (-1)) rfl (by decide) ?_
  refine Ev.jne (tgt := 80) rfl (by decide) (fun c74 => absurd (by decide) c74) (fun c74 => ?_)
  refine Ev.bipush (v := (-2)) rfl (by decide) ?_
  refine Ev.iret (ty := .int) rfl rfl rfl (Nat.le_refl _) (Nat.le_refl _) ?_
  rw [← hQ]
  exact ⟨rfl, fr, tx_isT hT h_st (fun j a b => kq j a (by omega)), h62⟩
theorem txt_0 (hX : isX σ x) (hT : isT σ (x + 1) T) (hw : wT T) (hf : fitT T) {fa pl ln0 tk0 st0 en0 va0 si : Int32} {tv : Value} {nu : Nat → Int32} {S0 : Sch} {P0 : Pln} (e0 : σ.2 (x + 63) = some (.inr (.inr (5, [.ref (x + 64), .ref (x + 75), .int fa, .int pl, tv, .int ln0, .int tk0, .int st0, .int en0, .int va0, .ref (x + 83), .int si])))) (e1 : isS σ (x + 64) S0) (e2 : isP σ (x + 75) P0) (e3 : σ.2 (x + 83) = some (.inl (0, 4, nu))) (hRt : rdst Γ) (hFR : frst Γ) (hwt : wtx Γ 0 90 (fun k => wdS.getD k 0)) {w : Int32} {k : Nat} (hp : plc w (tSn T) k) {m : Nat} (hm : tEnd (txU T) (tN T) (fun i => (qS (txU T) (tN T) (clS S0) i).1) m) : RetX Γ m_SD_text [.ref x, .int 0, .int w] σ (x + 1) (x + 84) (some (.int (if txF (qS (txU T) (tN T) (clS S0) m).1 = 0 then nI k else -1))) (fun τ => isT τ (x + 1) (if txF (qS (txU T) (tN T) (clS S0) m).1 = 0 then K_putS (T_tx T 0 (-1)) k (qS (txU T) (tN T) (clS S0) m).2 else T_tx T (nI (txF (qS (txU T) (tN T) (clS S0) m).1)) (txQ (txU T) (tN T) (qS (txU T) (tN T) (clS S0) m).1)) ∧ cR τ x ∧ τ.2 (x + 62) = σ.2 (x + 62)) := by
  unfold isX at hX
  obtain ⟨r, hr⟩ : ∃ r, r = x + 63 := ⟨_, rfl⟩
  rw [← hr] at hX
  obtain ⟨n, hn⟩ : ∃ n, n = tN T := ⟨_, rfl⟩
  have hn6 : n ≤ 600 := by rw [hn]; exact hw.1
  have h_st : σ.2 (x + 1) = some (.inr (.inr (1, [(.ref (x + 1 + 1)), (.int (nI n)), (.int (tF T)), (.int (tQ T)), (.ref (x + 1 + 2)), (.int (nI (tSn T))), (.ref (x + 1 + 3)), (.int (nI (tPn T)))]))) := by
    rw [hn]
    exact hT.1
  have h_rd : σ.2 r = some (.inr (.inr (5, [.ref (r + 1), .ref (r + 12), .int fa, .int pl, tv, .int ln0, .int tk0, .int st0, .int en0, .int va0, .ref (r + 20), .int si]))) := by
    rw [hr]
    exact e0
  have hS : isS σ (r + 1) S0 := by rw [hr]; exact e1
  have hP : isP σ (r + 12) P0 := by rw [hr]; exact e2
  have h_nu : σ.2 (r + 20) = some (.inl (0, 4, nu)) := by rw [hr]; exact e3
  have h_tp : σ.2 (x + 1 + 1) = some (.inl (1, 600, tB T)) := hT.2.1
  obtain ⟨ht, hc, -⟩ := txU_txt hw hf
  have hplt := hp.lt hw.2.1
  have hFb : txF (qS (txU T) (tN T) (clS S0) m).1 < 2 ^ 31 := by
    unfold txF
    split
    · decide
    · have h9 : Rf (qS (txU T) (tN T) (clS S0) m).1 ≤ 4 := (hm.2.2.1 m (Nat.le_refl _)).2.1
      omega
  unfold RetX
  rw [← hn] at ht hc hm hFb ⊢
  generalize hQ : ((fun (r0 : Option Value) (τ : ex_S) => r0 = some (.int (if txF (qS (txU T) n (clS S0) m).1 = 0 then nI k else -1)) ∧ frm σ τ (x + 1) (x + 84) ∧ (fun τ : ex_S => isT τ (x + 1) (if txF (qS (txU T) n (clS S0) m).1 = 0 then K_putS (T_tx T 0 (-1)) k (qS (txU T) n (clS S0) m).2 else T_tx T (nI (txF (qS (txU T) n (clS S0) m).1)) (txQ (txU T) n (qS (txU T) n (clS S0) m).1)) ∧ cR τ x ∧ τ.2 (x + 62) = σ.2 (x + 62)) τ)) = Q
  refine Ret.start pm_4 rfl ?_
  have fr : frm σ σ (x + 1) (x + 84) := frm.rf
  have kq : ∀ j, x + 1 < j → j < x + 62 → σ.2 j = σ.2 j := fun _ _ _ => rfl
  have h62 : σ.2 (x + 62) = σ.2 (x + 62) := rfl
  refine Ev.iload_n rfl rfl ?_
  refine Ev.zne (tgt := 18) rfl (by decide) (fun c1 => absurd (by decide) c1) (fun c1 => ?_)
  refine Ev.iload_n rfl rfl ?_
  refine Ev.aload_n rfl rfl ?_
  refine Ev.getf rfl rfl hX rfl ?_
  refine Ev.getf rfl rfl h_st rfl ?_
  refine Ev.cS2 rfl rfl rfl (by decide) ⟨(Nat.le_refl _), (Nat.le_refl _)⟩ (place_some hp hw.2.1) ?_
  refine Ev.goto (tgt := 38) rfl (by decide) ?_
  refine Ev.istore_n rfl rfl rfl ?_
  refine Ev.aload_n rfl rfl ?_
  refine Ev.getf rfl rfl hX rfl ?_
  refine Ev.iconst (v := 0) rfl (by decide) ?_
  refine Ev.putE rfl rfl h_st rfl rfl rfl (Nat.le_of_ble_eq_true rfl) (fun τ1 f1 h_st => ?_)
  replace h_st : τ1.2 (x + 1) = some (.inr (.inr (1, [(.ref (x + 1 + 1)), (.int (nI n)), (.int (0 : Int32)), (.int (tQ T)), (.ref (x + 1 + 2)), (.int (nI (tSn T))), (.ref (x + 1 + 3)), (.int (nI (tPn T)))]))) := h_st
  have hX := frm.cell f1 hX (by omega)
  have kq := fun j a b => (f1.2 j (by omega)).trans (kq j a b)
  have h62 := frm.cell f1 h62 (by omega)
  have h_rd := frm.cell f1 h_rd (by omega)
  have h_nu := frm.cell f1 h_nu (by omega)
  have h_tp := frm.cell f1 h_tp (by omega)
  have hS := hS.frm f1 (by omega)
  have hP := hP.frm f1 (by omega)
  have fr := fr.step f1 (by omega) (by omega)
  refine Ev.aload_n rfl rfl ?_
  refine Ev.getf rfl rfl hX rfl ?_
  refine Ev.iconst (v := (-1)) rfl (by decide) ?_
  refine Ev.putE rfl rfl h_st rfl rfl rfl (Nat.le_of_ble_eq_true rfl) (fun τ2 f1 h_st => ?_)
  replace h_st : τ2.2 (x + 1) = some (.inr (.inr (1, [(.ref (x + 1 + 1)), (.int (nI n)), (.int (0 : Int32)), (.int (-1 : Int32)), (.ref (x + 1 + 2)), (.int (nI (tSn T))), (.ref (x + 1 + 3)), (.int (nI (tPn T)))]))) := h_st
  have hX := frm.cell f1 hX (by omega)
  have kq := fun j a b => (f1.2 j (by omega)).trans (kq j a b)
  have h62 := frm.cell f1 h62 (by omega)
  have h_rd := frm.cell f1 h_rd (by omega)
  have h_nu := frm.cell f1 h_nu (by omega)
  have h_tp := frm.cell f1 h_tp (by omega)
  have hS := hS.frm f1 (by omega)
  have hP := hP.frm f1 (by omega)
  have fr := fr.step f1 (by omega) (by omega)
  refine Ev.aload_n rfl rfl ?_
  refine Ev.getf rfl rfl hX rfl ?_
  refine Ev.getf rfl rfl h_st rfl ?_
  refine Ev.istore rfl rfl rfl ?_
  refine Ev.aload_n rfl rfl ?_
  refine Ev.getf rfl rfl hX rfl ?_
  refine Ev.iconst (v := 0) rfl (by decide) ?_
  refine Ev.putE rfl rfl h_st rfl rfl rfl (Nat.le_of_ble_eq_true rfl) (fun τ3 f1 h_st => ?_)
  replace h_st : τ3.2 (x + 1) = some (.inr (.inr (1, [(.ref (x + 1 + 1)), (.int (0 : Int32)), (.int (0 : Int32)), (.int (-1 : Int32)), (.ref (x + 1 + 2)), (.int (nI (tSn T))), (.ref (x + 1 + 3)), (.int (nI (tPn T)))]))) := h_st
  have hX := frm.cell f1 hX (by omega)
  have kq := fun j a b => (f1.2 j (by omega)).trans (kq j a b)
  have h62 := frm.cell f1 h62 (by omega)
  have h_rd := frm.cell f1 h_rd (by omega)
  have h_nu := frm.cell f1 h_nu (by omega)
  have h_tp := frm.cell f1 h_tp (by omega)
  have hS := hS.frm f1 (by omega)
  have hP := hP.frm f1 (by omega)
  have fr := fr.step f1 (by omega) (by omega)
  refine Ev.iload_n rfl rfl ?_
  refine Ev.iconst (v := (-1)) rfl (by decide) ?_
  refine Ev.jne (tgt := 80) rfl (by decide) (fun c74 => ?_) (fun c74 => absurd c74 (nI_m1 (by omega)))
  refine Ev.aload_n rfl rfl ?_
  refine Ev.getf rfl rfl hX rfl ?_
  refine Ev.aload_n rfl rfl ?_
  refine Ev.getf rfl rfl hX rfl ?_
  refine Ev.getf rfl rfl h_st rfl ?_
  refine Ev.iload rfl rfl ?_
  refine Ev.iload_n rfl rfl ?_
  refine Ev.zne (tgt := 101) rfl (by decide) (fun c94 => absurd (by decide) c94) (fun c94 => ?_)
  refine Ev.iconst (v := 1) rfl (by decide) ?_
  refine Ev.goto (tgt := 102) rfl (by decide) ?_
  refine Ev.xV3u rfl rfl h_rd rfl rfl (by decide) ⟨(Nat.le_refl _), (Nat.le_refl _)⟩ (read_s ht hc h_tp (by omega) h_rd h_nu hS hP hRt hFR hwt hm) (fun τ102 f9 q9 => ?_)
  obtain ⟨tk9, st9, en9, va9, si9, nu9, S9, P9, h_rd, h_nu, hS, hP, hE⟩ := q9
  have h_st := frm.cell f9 h_st (by omega)
  have hX := frm.cell f9 hX (by omega)
  have kq := fun j a b => (f9.2 j (by omega)).trans (kq j a b)
  have h62 := frm.cell f9 h62 (by omega)
  have h_tp := frm.cell f9 h_tp (by omega)
  have fr := fr.step f9 (by omega) (by omega)
  have h_rd : τ102.2 r = some (.inr (.inr (5, [(.ref (r + 1)), (.ref (r + 12)), (.int (nI (txF (qS (txU T) n (clS S0) m).1))), (.int (txQ (txU T) n (qS (txU T) n (clS S0) m).1)), (.ref (x + 1 + 1)), (.int (nI n)), (.int tk9), (.int st9), (.int en9), (.int va9), (.ref (r + 20)), (.int si9)]))) := h_rd
  refine Ev.aload_n rfl rfl ?_
  refine Ev.getf rfl rfl hX rfl ?_
  refine Ev.getf rfl rfl h_rd rfl ?_
  refine Ev.zeq (tgt := 145) rfl (by decide) (fun c112 => ?_) (fun c112 => ?_)
  · skip
    refine Ev.iload_n rfl rfl ?_
    refine Ev.zne (tgt := 167) rfl (by decide) (fun c146 => absurd (by decide) c146) (fun c146 => ?_)
    refine Ev.aload_n rfl rfl ?_
    refine Ev.getf rfl rfl hX rfl ?_
    refine Ev.iload_n rfl rfl ?_
    refine Ev.aload_n rfl rfl ?_
    refine Ev.getf rfl rfl hX rfl ?_
    refine Ev.getf rfl rfl h_rd rfl ?_
    have hF0 : txF (qS (txU T) n (clS S0) m).1 = 0 := nI_injL (b := 0) hFb (by decide) c112
    obtain ⟨hw9, hf9⟩ := txF_0 hF0
    have hTt : isT _ (x + 1) (T_tx T 0 (-1)) := tx_isT hT h_st (fun j a b => kq j a (by omega))
    have hE9 := hE hw9
    refine Ev.xV2u rfl rfl h_st rfl rfl (by decide) ⟨(Nat.le_refl _), (Nat.le_refl _)⟩ (putS_ok hTt hS hplt.1 hw.2.1 (by omega)) (fun τ161 f9 hT9 => ?_)
    have h62 := frm.cell f9 h62 (by omega)
    have h_rd := frm.cell f9 h_rd (by omega)
    have h_nu := frm.cell f9 h_nu (by omega)
    have hS := hS.frm f9 (by omega)
    have hP := hP.frm f9 (by omega)
    have fr := fr.step f9 (by omega) (by omega)
    refine Ev.goto (tgt := 182) rfl (by decide) ?_
    refine Ev.iload_n rfl rfl ?_
    refine Ev.iret (ty := .int) rfl rfl rfl (Nat.le_refl _) (Nat.le_refl _) ?_
    rw [hE9] at hT9
    rw [← hQ]
    subst hr
    refine ⟨by rw [if_pos hF0], fr, ?_, ⟨S9, P9, nu9, .ref (x + 1 + 1), _, _, _, _, _, _, _, _, h_rd, hS, hP, h_nu, Or.inr rfl⟩, h62⟩
    rw [if_pos hF0]
    exact hT9
  · skip
    refine Ev.aload_n rfl rfl ?_
    refine Ev.getf rfl rfl hX rfl ?_
    refine Ev.aload_n rfl rfl ?_
    refine Ev.getf rfl rfl hX rfl ?_
    refine Ev.getf rfl rfl h_rd rfl ?_
    refine Ev.putE rfl rfl h_st rfl rfl rfl (Nat.le_of_ble_eq_true rfl) (fun τ4 f1 h_st => ?_)
    replace h_st : τ4.2 (x + 1) = some (.inr (.inr (1, [(.ref (x + 1 + 1)), (.int (0 : Int32)), (.int (nI (txF (qS (txU T) n (clS S0) m).1))), (.int (-1 : Int32)), (.ref (x + 1 + 2)), (.int (nI (tSn T))), (.ref (x + 1 + 3)), (.int (nI (tPn T)))]))) := h_st
    have hX := frm.cell f1 hX (by omega)
    have kq := fun j a b => (f1.2 j (by omega)).trans (kq j a b)
    have h62 := frm.cell f1 h62 (by omega)
    have h_rd := frm.cell f1 h_rd (by omega)
    have h_nu := frm.cell f1 h_nu (by omega)
    have h_tp := frm.cell f1 h_tp (by omega)
    have hS := hS.frm f1 (by omega)
    have hP := hP.frm f1 (by omega)
    have fr := fr.step f1 (by omega) (by omega)
    refine Ev.aload_n rfl rfl ?_
    refine Ev.getf rfl rfl hX rfl ?_
    refine Ev.aload_n rfl rfl ?_
    refine Ev.getf rfl rfl hX rfl ?_
    refine Ev.getf rfl rfl h_rd rfl ?_
    refine Ev.putE rfl rfl h_st rfl rfl rfl (Nat.le_of_ble_eq_true rfl) (fun τ5 f1 h_st => ?_)
    replace h_st : τ5.2 (x + 1) = some (.inr (.inr (1, [(.ref (x + 1 + 1)), (.int (0 : Int32)), (.int (nI (txF (qS (txU T) n (clS S0) m).1))), (.int (txQ (txU T) n (qS (txU T) n (clS S0) m).1)), (.ref (x + 1 + 2)), (.int (nI (tSn T))), (.ref (x + 1 + 3)), (.int (nI (tPn T)))]))) := h_st
    have hX := frm.cell f1 hX (by omega)
    have kq := fun j a b => (f1.2 j (by omega)).trans (kq j a b)
    have h62 := frm.cell f1 h62 (by omega)
    have h_rd := frm.cell f1 h_rd (by omega)
    have h_nu := frm.cell f1 h_nu (by omega)
    have h_tp := frm.cell f1 h_tp (by omega)
    have hS := hS.frm f1 (by omega)
    have hP := hP.frm f1 (by omega)
    have fr := fr.step f1 (by omega) (by omega)
    refine Ev.iconst (v := (-1)) rfl (by decide) ?_
    refine Ev.iret (ty := .int) rfl rfl rfl (Nat.le_refl _) (Nat.le_refl _) ?_
    have hF : ¬ txF (qS (txU T) n (clS S0) m).1 = 0 := fun h => c112 (congrArg nI h)
    rw [← hQ]
    subst hr
    refine ⟨by rw [if_neg hF], fr, ?_, ⟨S9, P9, nu9, .ref (x + 1 + 1), _, _, _, _, _, _, _, _, h_rd, hS, hP, h_nu, Or.inr rfl⟩, h62⟩
    rw [if_neg hF]
    exact tx_isT hT h_st (fun j a b => kq j a (by omega))
theorem txt_1 (hX : isX σ x) (hT : isT σ (x + 1) T) (hw : wT T) (hf : fitT T) {fa pl ln0 tk0 st0 en0 va0 si : Int32} {tv : Value} {nu : Nat → Int32} {S0 : Sch} {P0 : Pln} (e0 : σ.2 (x + 63) = some (.inr (.inr (5, [.ref (x + 64), .ref (x + 75), .int fa, .int pl, tv, .int ln0, .int tk0, .int st0, .int en0, .int va0, .ref (x + 83), .int si])))) (e1 : isS σ (x + 64) S0) (e2 : isP σ (x + 75) P0) (e3 : σ.2 (x + 83) = some (.inl (0, 4, nu))) (hRt : rdst Γ) (hFR : frst Γ) (hwt : wtx Γ 1 31 (fun k => wdP.getD k 0)) {w : Int32} {k : Nat} (hp : plc w (tPn T) k) {m : Nat} (hm : tEnd (txU T) (tN T) (fun i => (qP (txU T) (tN T) (0, P0.2) i).1) m) : RetX Γ m_SD_text [.ref x, .int 1, .int w] σ (x + 1) (x + 84) (some (.int (if txF (qP (txU T) (tN T) (0, P0.2) m).1 = 0 then nI k else -1))) (fun τ => isT τ (x + 1) (if txF (qP (txU T) (tN T) (0, P0.2) m).1 = 0 then K_putP (T_tx T 0 (-1)) k (qP (txU T) (tN T) (0, P0.2) m).2 else T_tx T (nI (txF (qP (txU T) (tN T) (0, P0.2) m).1)) (txQ (txU T) (tN T) (qP (txU T) (tN T) (0, P0.2) m).1)) ∧ cR τ x ∧ τ.2 (x + 62) = σ.2 (x + 62)) := by
  unfold isX at hX
  obtain ⟨r, hr⟩ : ∃ r, r = x + 63 := ⟨_, rfl⟩
  rw [← hr] at hX
  obtain ⟨n, hn⟩ : ∃ n, n = tN T := ⟨_, rfl⟩
  have hn6 : n ≤ 600 := by rw [hn]; exact hw.1
  have h_st : σ.2 (x + 1) = some (.inr (.inr (1, [(.ref (x + 1 + 1)), (.int (nI n)), (.int (tF T)), (.int (tQ T)), (.ref (x + 1 + 2)), (.int (nI (tSn T))), (.ref (x + 1 + 3)), (.int (nI (tPn T)))]))) := by
    rw [hn]
    exact hT.1
  have h_rd : σ.2 r = some (.inr (.inr (5, [.ref (r + 1), .ref (r + 12), .int fa, .int pl, tv, .int ln0, .int tk0, .int st0, .int en0, .int va0, .ref (r + 20), .int si]))) := by
    rw [hr]
    exact e0
  have hS : isS σ (r + 1) S0 := by rw [hr]; exact e1
  have hP : isP σ (r + 12) P0 := by rw [hr]; exact e2
  have h_nu : σ.2 (r + 20) = some (.inl (0, 4, nu)) := by rw [hr]; exact e3
  have h_tp : σ.2 (x + 1 + 1) = some (.inl (1, 600, tB T)) := hT.2.1
  obtain ⟨ht, hc, -⟩ := txU_txt hw hf
  have hplt := hp.lt hw.2.2.1
  have hFb : txF (qP (txU T) (tN T) (0, P0.2) m).1 < 2 ^ 31 := by
    unfold txF
    split
    · decide
    · have h9 : Rf (qP (txU T) (tN T) (0, P0.2) m).1 ≤ 4 := (hm.2.2.1 m (Nat.le_refl _)).2.1
      omega
  unfold RetX
  rw [← hn] at ht hc hm hFb ⊢
  generalize hQ : ((fun (r0 : Option Value) (τ : ex_S) => r0 = some (.int (if txF (qP (txU T) n (0, P0.2) m).1 = 0 then nI k else -1)) ∧ frm σ τ (x + 1) (x + 84) ∧ (fun τ : ex_S => isT τ (x + 1) (if txF (qP (txU T) n (0, P0.2) m).1 = 0 then K_putP (T_tx T 0 (-1)) k (qP (txU T) n (0, P0.2) m).2 else T_tx T (nI (txF (qP (txU T) n (0, P0.2) m).1)) (txQ (txU T) n (qP (txU T) n (0, P0.2) m).1)) ∧ cR τ x ∧ τ.2 (x + 62) = σ.2 (x + 62)) τ)) = Q
  refine Ret.start pm_4 rfl ?_
  have fr : frm σ σ (x + 1) (x + 84) := frm.rf
  have kq : ∀ j, x + 1 < j → j < x + 62 → σ.2 j = σ.2 j := fun _ _ _ => rfl
  have h62 : σ.2 (x + 62) = σ.2 (x + 62) := rfl
  refine Ev.iload_n rfl rfl ?_
  refine Ev.zne (tgt := 18) rfl (by decide) (fun c1 => ?_) (fun c1 => absurd c1 (by decide))
  refine Ev.iload_n rfl rfl ?_
  refine Ev.iconst (v := 1) rfl (by decide) ?_
  refine Ev.jne (tgt := 37) rfl (by decide) (fun c20 => absurd (by decide) c20) (fun c20 => ?_)
  refine Ev.iload_n rfl rfl ?_
  refine Ev.aload_n rfl rfl ?_
  refine Ev.getf rfl rfl hX rfl ?_
  refine Ev.getf rfl rfl h_st rfl ?_
  refine Ev.cS2 rfl rfl rfl (by decide) ⟨(Nat.le_refl _), (Nat.le_refl _)⟩ (place_some hp hw.2.2.1) ?_
  refine Ev.goto (tgt := 38) rfl (by decide) ?_
  refine Ev.istore_n rfl rfl rfl ?_
  refine Ev.aload_n rfl rfl ?_
  refine Ev.getf rfl rfl hX rfl ?_
  refine Ev.iconst (v := 0) rfl (by decide) ?_
  refine Ev.putE rfl rfl h_st rfl rfl rfl (Nat.le_of_ble_eq_true rfl) (fun τ1 f1 h_st => ?_)
  replace h_st : τ1.2 (x + 1) = some (.inr (.inr (1, [(.ref (x + 1 + 1)), (.int (nI n)), (.int (0 : Int32)), (.int (tQ T)), (.ref (x + 1 + 2)), (.int (nI (tSn T))), (.ref (x + 1 + 3)), (.int (nI (tPn T)))]))) := h_st
  have hX := frm.cell f1 hX (by omega)
  have kq := fun j a b => (f1.2 j (by omega)).trans (kq j a b)
  have h62 := frm.cell f1 h62 (by omega)
  have h_rd := frm.cell f1 h_rd (by omega)
  have h_nu := frm.cell f1 h_nu (by omega)
  have h_tp := frm.cell f1 h_tp (by omega)
  have hS := hS.frm f1 (by omega)
  have hP := hP.frm f1 (by omega)
  have fr := fr.step f1 (by omega) (by omega)
  refine Ev.aload_n rfl rfl ?_
  refine Ev.getf rfl rfl hX rfl ?_
  refine Ev.iconst (v := (-1)) rfl (by decide) ?_
  refine Ev.putE rfl rfl h_st rfl rfl rfl (Nat.le_of_ble_eq_true rfl) (fun τ2 f1 h_st => ?_)
  replace h_st : τ2.2 (x + 1) = some (.inr (.inr (1, [(.ref (x + 1 + 1)), (.int (nI n)), (.int (0 : Int32)), (.int (-1 : Int32)), (.ref (x + 1 + 2)), (.int (nI (tSn T))), (.ref (x + 1 + 3)), (.int (nI (tPn T)))]))) := h_st
  have hX := frm.cell f1 hX (by omega)
  have kq := fun j a b => (f1.2 j (by omega)).trans (kq j a b)
  have h62 := frm.cell f1 h62 (by omega)
  have h_rd := frm.cell f1 h_rd (by omega)
  have h_nu := frm.cell f1 h_nu (by omega)
  have h_tp := frm.cell f1 h_tp (by omega)
  have hS := hS.frm f1 (by omega)
  have hP := hP.frm f1 (by omega)
  have fr := fr.step f1 (by omega) (by omega)
  refine Ev.aload_n rfl rfl ?_
  refine Ev.getf rfl rfl hX rfl ?_
  refine Ev.getf rfl rfl h_st rfl ?_
  refine Ev.istore rfl rfl rfl ?_
  refine Ev.aload_n rfl rfl ?_
  refine Ev.getf rfl rfl hX rfl ?_
  refine Ev.iconst (v := 0) rfl (by decide) ?_
  refine Ev.putE rfl rfl h_st rfl rfl rfl (Nat.le_of_ble_eq_true rfl) (fun τ3 f1 h_st => ?_)
  replace h_st : τ3.2 (x + 1) = some (.inr (.inr (1, [(.ref (x + 1 + 1)), (.int (0 : Int32)), (.int (0 : Int32)), (.int (-1 : Int32)), (.ref (x + 1 + 2)), (.int (nI (tSn T))), (.ref (x + 1 + 3)), (.int (nI (tPn T)))]))) := h_st
  have hX := frm.cell f1 hX (by omega)
  have kq := fun j a b => (f1.2 j (by omega)).trans (kq j a b)
  have h62 := frm.cell f1 h62 (by omega)
  have h_rd := frm.cell f1 h_rd (by omega)
  have h_nu := frm.cell f1 h_nu (by omega)
  have h_tp := frm.cell f1 h_tp (by omega)
  have hS := hS.frm f1 (by omega)
  have hP := hP.frm f1 (by omega)
  have fr := fr.step f1 (by omega) (by omega)
  refine Ev.iload_n rfl rfl ?_
  refine Ev.iconst (v := (-1)) rfl (by decide) ?_
  refine Ev.jne (tgt := 80) rfl (by decide) (fun c74 => ?_) (fun c74 => absurd c74 (nI_m1 (by omega)))
  refine Ev.aload_n rfl rfl ?_
  refine Ev.getf rfl rfl hX rfl ?_
  refine Ev.aload_n rfl rfl ?_
  refine Ev.getf rfl rfl hX rfl ?_
  refine Ev.getf rfl rfl h_st rfl ?_
  refine Ev.iload rfl rfl ?_
  refine Ev.iload_n rfl rfl ?_
  refine Ev.zne (tgt := 101) rfl (by decide) (fun c94 => ?_) (fun c94 => absurd c94 (by decide))
  refine Ev.iconst (v := 0) rfl (by decide) ?_
  refine Ev.xV3u rfl rfl h_rd rfl rfl (by decide) ⟨(Nat.le_refl _), (Nat.le_refl _)⟩ (read_p ht hc h_tp (by omega) h_rd h_nu hS hP hRt hFR hwt hm) (fun τ102 f9 q9 => ?_)
  obtain ⟨tk9, st9, en9, va9, si9, nu9, S9, P9, h_rd, h_nu, hS, hP, hE⟩ := q9
  have h_st := frm.cell f9 h_st (by omega)
  have hX := frm.cell f9 hX (by omega)
  have kq := fun j a b => (f9.2 j (by omega)).trans (kq j a b)
  have h62 := frm.cell f9 h62 (by omega)
  have h_tp := frm.cell f9 h_tp (by omega)
  have fr := fr.step f9 (by omega) (by omega)
  have h_rd : τ102.2 r = some (.inr (.inr (5, [(.ref (r + 1)), (.ref (r + 12)), (.int (nI (txF (qP (txU T) n (0, P0.2) m).1))), (.int (txQ (txU T) n (qP (txU T) n (0, P0.2) m).1)), (.ref (x + 1 + 1)), (.int (nI n)), (.int tk9), (.int st9), (.int en9), (.int va9), (.ref (r + 20)), (.int si9)]))) := h_rd
  refine Ev.aload_n rfl rfl ?_
  refine Ev.getf rfl rfl hX rfl ?_
  refine Ev.getf rfl rfl h_rd rfl ?_
  refine Ev.zeq (tgt := 145) rfl (by decide) (fun c112 => ?_) (fun c112 => ?_)
  · skip
    refine Ev.iload_n rfl rfl ?_
    refine Ev.zne (tgt := 167) rfl (by decide) (fun c146 => ?_) (fun c146 => absurd c146 (by decide))
    refine Ev.aload_n rfl rfl ?_
    refine Ev.getf rfl rfl hX rfl ?_
    refine Ev.iload_n rfl rfl ?_
    refine Ev.aload_n rfl rfl ?_
    refine Ev.getf rfl rfl hX rfl ?_
    refine Ev.getf rfl rfl h_rd rfl ?_
    have hF0 : txF (qP (txU T) n (0, P0.2) m).1 = 0 := nI_injL (b := 0) hFb (by decide) c112
    obtain ⟨hw9, hf9⟩ := txF_0 hF0
    have hTt : isT _ (x + 1) (T_tx T 0 (-1)) := tx_isT hT h_st (fun j a b => kq j a (by omega))
    have hE9 := hE hw9
    refine Ev.xV2u rfl rfl h_st rfl rfl (by decide) ⟨(Nat.le_refl _), (Nat.le_refl _)⟩ (putP_ok hTt hP hplt.1 hw.2.2.1 (by omega)) (fun τ161 f9 hT9 => ?_)
    have h62 := frm.cell f9 h62 (by omega)
    have h_rd := frm.cell f9 h_rd (by omega)
    have h_nu := frm.cell f9 h_nu (by omega)
    have hS := hS.frm f9 (by omega)
    have hP := hP.frm f9 (by omega)
    have fr := fr.step f9 (by omega) (by omega)
    refine Ev.iload_n rfl rfl ?_
    refine Ev.iret (ty := .int) rfl rfl rfl (Nat.le_refl _) (Nat.le_refl _) ?_
    rw [hE9] at hT9
    rw [← hQ]
    subst hr
    refine ⟨by rw [if_pos hF0], fr, ?_, ⟨S9, P9, nu9, .ref (x + 1 + 1), _, _, _, _, _, _, _, _, h_rd, hS, hP, h_nu, Or.inr rfl⟩, h62⟩
    rw [if_pos hF0]
    exact hT9
  · skip
    refine Ev.aload_n rfl rfl ?_
    refine Ev.getf rfl rfl hX rfl ?_
    refine Ev.aload_n rfl rfl ?_
    refine Ev.getf rfl rfl hX rfl ?_
    refine Ev.getf rfl rfl h_rd rfl ?_
    refine Ev.putE rfl rfl h_st rfl rfl rfl (Nat.le_of_ble_eq_true rfl) (fun τ4 f1 h_st => ?_)
    replace h_st : τ4.2 (x + 1) = some (.inr (.inr (1, [(.ref (x + 1 + 1)), (.int (0 : Int32)), (.int (nI (txF (qP (txU T) n (0, P0.2) m).1))), (.int (-1 : Int32)), (.ref (x + 1 + 2)), (.int (nI (tSn T))), (.ref (x + 1 + 3)), (.int (nI (tPn T)))]))) := h_st
    have hX := frm.cell f1 hX (by omega)
    have kq := fun j a b => (f1.2 j (by omega)).trans (kq j a b)
    have h62 := frm.cell f1 h62 (by omega)
    have h_rd := frm.cell f1 h_rd (by omega)
    have h_nu := frm.cell f1 h_nu (by omega)
    have h_tp := frm.cell f1 h_tp (by omega)
    have hS := hS.frm f1 (by omega)
    have hP := hP.frm f1 (by omega)
    have fr := fr.step f1 (by omega) (by omega)
    refine Ev.aload_n rfl rfl ?_
    refine Ev.getf rfl rfl hX rfl ?_
    refine Ev.aload_n rfl rfl ?_
    refine Ev.getf rfl rfl hX rfl ?_
    refine Ev.getf rfl rfl h_rd rfl ?_
    refine Ev.putE rfl rfl h_st rfl rfl rfl (Nat.le_of_ble_eq_true rfl) (fun τ5 f1 h_st => ?_)
    replace h_st : τ5.2 (x + 1) = some (.inr (.inr (1, [(.ref (x + 1 + 1)), (.int (0 : Int32)), (.int (nI (txF (qP (txU T) n (0, P0.2) m).1))), (.int (txQ (txU T) n (qP (txU T) n (0, P0.2) m).1)), (.ref (x + 1 + 2)), (.int (nI (tSn T))), (.ref (x + 1 + 3)), (.int (nI (tPn T)))]))) := h_st
    have hX := frm.cell f1 hX (by omega)
    have kq := fun j a b => (f1.2 j (by omega)).trans (kq j a b)
    have h62 := frm.cell f1 h62 (by omega)
    have h_rd := frm.cell f1 h_rd (by omega)
    have h_nu := frm.cell f1 h_nu (by omega)
    have h_tp := frm.cell f1 h_tp (by omega)
    have hS := hS.frm f1 (by omega)
    have hP := hP.frm f1 (by omega)
    have fr := fr.step f1 (by omega) (by omega)
    refine Ev.iconst (v := (-1)) rfl (by decide) ?_
    refine Ev.iret (ty := .int) rfl rfl rfl (Nat.le_refl _) (Nat.le_refl _) ?_
    have hF : ¬ txF (qP (txU T) n (0, P0.2) m).1 = 0 := fun h => c112 (congrArg nI h)
    rw [← hQ]
    subst hr
    refine ⟨by rw [if_neg hF], fr, ?_, ⟨S9, P9, nu9, .ref (x + 1 + 1), _, _, _, _, _, _, _, _, h_rd, hS, hP, h_nu, Or.inr rfl⟩, h62⟩
    rw [if_neg hF]
    exact tx_isT hT h_st (fun j a b => kq j a (by omega))
end
end
