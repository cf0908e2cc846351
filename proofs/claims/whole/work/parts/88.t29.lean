/-! The law: its loop. -/
noncomputable section
theorem and63 (v : Int32) : ∃ n : Nat, n < 64 ∧ v &&& (63 : Int32) = nI n := by
  refine ⟨(v &&& (63 : Int32)).toBitVec.toNat, ?_, ?_⟩
  · show (v.toBitVec &&& (63 : Int32).toBitVec).toNat < 64
    rw [BitVec.toNat_and]
    exact Nat.lt_of_le_of_lt Nat.and_le_right (by decide)
  · apply Int32.toBitVec_inj.mp
    show (v &&& (63 : Int32)).toBitVec = BitVec.ofNat 32 (v &&& (63 : Int32)).toBitVec.toNat
    rw [BitVec.ofNat_toNat, BitVec.setWidth_eq]
theorem len6 {L k : Nat} (hL : L ≤ 3072) (hk : k ≤ 1000) : (nI L - (6 : Int32) < nI (6 * k)) ↔ L < 6 * k + 6 := by
  have e : (nI L - (6 : Int32)).toInt = (L : Int) - 6 := by
    have q : (nI L).toInt = (L : Int) := nI_toInt (by omega)
    rw [subI (by rw [q, show (6 : Int32).toInt = 6 from rfl]; omega) (by rw [q, show (6 : Int32).toInt = 6 from rfl]; omega), q]
    rfl
  rw [lt_toInt, e, nI_toInt (by omega)]
  omega
section
variable {Γ : ex_G} {b L x : Nat} {xs : Nat → Int32} {Q : Option Value → ex_S → Prop}
set_option maxRecDepth 16384 in
theorem law_table (hA : (b, 0, L, xs) ∈ gA Γ) (hL : L ≤ 3072) (hq2 : (∀ (k cells slots : Nat) (σ : ex_S) (T : Tol) (I : Nat → Option Tol), 6 * k + 6 ≤ L → cells + 70 ≤ 600000 → slots + 4300 ≤ 7302250 → Inv σ x T I → (∀ (τ : ex_S) (T1 : Tol) (I1 : Nat → Option Tol) (mc ms : Nat), mc ≤ 70 → ms ≤ 4300 → Inv τ x T1 I1 → Ev Γ 600000 7302250 m_Law_law (cells + mc) (slots + ms) 2095 [some (.ref b), some (.ref x), some (.ref (x + 117)), some (.int (nI (6 * k)))] [] τ Q) → Ev Γ 600000 7302250 m_Law_law cells slots 314 [some (.ref b), some (.ref x), some (.ref (x + 117)), some (.int (nI (6 * k)))] [] σ Q)) (hq24 : (∀ (k cells slots : Nat) (σ : ex_S) (T : Tol) (I : Nat → Option Tol), 6 * k + 6 ≤ L → cells + 70 ≤ 600000 → slots + 4300 ≤ 7302250 → Inv σ x T I → (∀ (τ : ex_S) (T1 : Tol) (I1 : Nat → Option Tol) (mc ms : Nat), mc ≤ 70 → ms ≤ 4300 → Inv τ x T1 I1 → Ev Γ 600000 7302250 m_Law_law (cells + mc) (slots + ms) 2095 [some (.ref b), some (.ref x), some (.ref (x + 117)), some (.int (nI (6 * k)))] [] τ Q) → Ev Γ 600000 7302250 m_Law_law cells slots 1222 [some (.ref b), some (.ref x), some (.ref (x + 117)), some (.int (nI (6 * k)))] [] σ Q)) {k cells slots : Nat} {σ : ex_S} {T : Tol} {I : Nat → Option Tol} (hk : 6 * k + 6 ≤ L) (hc : cells + 70 ≤ 600000) (hs : slots + 4300 ≤ 7302250) (h : Inv σ x T I) (hnext : ∀ (τ : ex_S) (T1 : Tol) (I1 : Nat → Option Tol) (mc ms : Nat), mc ≤ 70 → ms ≤ 4300 → Inv τ x T1 I1 → Ev Γ 600000 7302250 m_Law_law (cells + mc) (slots + ms) 2095 [some (.ref b), some (.ref x), some (.ref (x + 117)), some (.int (nI (6 * k)))] [] τ Q) {n : Nat} (hn : n < 64) : Ev Γ 600000 7302250 m_Law_law cells slots 33 [some (.ref b), some (.ref x), some (.ref (x + 117)), some (.int (nI (6 * k)))] [.int (nI n)] σ Q := by
  by_cases c : n < 45
  · match n, c with
    | 0, _ =>
      refine Ev.tableIn (off := 195) (tgt := 228) rfl (by decide) (by decide) rfl (by decide) ?_
      exact law_0 hA hL hk hc hs h hnext
    | 1, _ =>
      refine Ev.tableIn (off := 258) (tgt := 291) rfl (by decide) (by decide) rfl (by decide) ?_
      exact law_1 hA hL hk hc hs h hnext
    | 2, _ =>
      refine Ev.tableIn (off := 281) (tgt := 314) rfl (by decide) (by decide) rfl (by decide) ?_
      exact hq2 k cells slots σ T I hk hc hs h hnext
    | 3, _ =>
      refine Ev.tableIn (off := 314) (tgt := 347) rfl (by decide) (by decide) rfl (by decide) ?_
      exact law_3 hA hL hk hc hs h hnext
    | 4, _ =>
      refine Ev.tableIn (off := 337) (tgt := 370) rfl (by decide) (by decide) rfl (by decide) ?_
      exact law_4 hA hL hk hc hs h hnext
    | 5, _ =>
      refine Ev.tableIn (off := 370) (tgt := 403) rfl (by decide) (by decide) rfl (by decide) ?_
      exact law_5 hA hL hk hc hs h hnext
    | 6, _ =>
      refine Ev.tableIn (off := 413) (tgt := 446) rfl (by decide) (by decide) rfl (by decide) ?_
      exact law_6 hA hL hk hc hs h hnext
    | 7, _ =>
      refine Ev.tableIn (off := 456) (tgt := 489) rfl (by decide) (by decide) rfl (by decide) ?_
      exact law_7 hA hL hk hc hs h hnext
    | 8, _ =>
      refine Ev.tableIn (off := 489) (tgt := 522) rfl (by decide) (by decide) rfl (by decide) ?_
      exact law_8 hA hL hk hc hs h hnext
    | 9, _ =>
      refine Ev.tableIn (off := 558) (tgt := 591) rfl (by decide) (by decide) rfl (by decide) ?_
      exact law_9 hA hL hk hc hs h hnext
    | 10, _ =>
      refine Ev.tableIn (off := 611) (tgt := 644) rfl (by decide) (by decide) rfl (by decide) ?_
      exact law_10 hA hL hk hc hs h hnext
    | 11, _ =>
      refine Ev.tableIn (off := 664) (tgt := 697) rfl (by decide) (by decide) rfl (by decide) ?_
      exact law_11 hA hL hk hc hs h hnext
    | 12, _ =>
      refine Ev.tableIn (off := 707) (tgt := 740) rfl (by decide) (by decide) rfl (by decide) ?_
      exact law_12 hA hL hk hc hs h hnext
    | 13, _ =>
      refine Ev.tableIn (off := 740) (tgt := 773) rfl (by decide) (by decide) rfl (by decide) ?_
      exact law_13 hA hL hk hc hs h hnext
    | 14, _ =>
      refine Ev.tableIn (off := 773) (tgt := 806) rfl (by decide) (by decide) rfl (by decide) ?_
      exact law_14 hA hL hk hc hs h hnext
    | 15, _ =>
      refine Ev.tableIn (off := 816) (tgt := 849) rfl (by decide) (by decide) rfl (by decide) ?_
      exact law_15 hA hL hk hc hs h hnext
    | 16, _ =>
      refine Ev.tableIn (off := 859) (tgt := 892) rfl (by decide) (by decide) rfl (by decide) ?_
      exact law_16 hA hL hk hc hs h hnext
    | 17, _ =>
      refine Ev.tableIn (off := 892) (tgt := 925) rfl (by decide) (by decide) rfl (by decide) ?_
      exact law_17 hA hL hk hc hs h hnext
    | 18, _ =>
      refine Ev.tableIn (off := 935) (tgt := 968) rfl (by decide) (by decide) rfl (by decide) ?_
      exact law_18 hA hL hk hc hs h hnext
    | 19, _ =>
      refine Ev.tableIn (off := 968) (tgt := 1001) rfl (by decide) (by decide) rfl (by decide) ?_
      exact law_19 hA hL hk hc hs h hnext
    | 20, _ =>
      refine Ev.tableIn (off := 1011) (tgt := 1044) rfl (by decide) (by decide) rfl (by decide) ?_
      exact law_20 hA hL hk hc hs h hnext
    | 21, _ =>
      refine Ev.tableIn (off := 1054) (tgt := 1087) rfl (by decide) (by decide) rfl (by decide) ?_
      exact law_21 hA hL hk hc hs h hnext
    | 22, _ =>
      refine Ev.tableIn (off := 1103) (tgt := 1136) rfl (by decide) (by decide) rfl (by decide) ?_
      exact law_22 hA hL hk hc hs h hnext
    | 23, _ =>
      refine Ev.tableIn (off := 1146) (tgt := 1179) rfl (by decide) (by decide) rfl (by decide) ?_
      exact law_23 hA hL hk hc hs h hnext
    | 24, _ =>
      refine Ev.tableIn (off := 1189) (tgt := 1222) rfl (by decide) (by decide) rfl (by decide) ?_
      exact hq24 k cells slots σ T I hk hc hs h hnext
    | 25, _ =>
      refine Ev.tableIn (off := 1242) (tgt := 1275) rfl (by decide) (by decide) rfl (by decide) ?_
      exact law_25 hA hL hk hc hs h hnext
    | 26, _ =>
      refine Ev.tableIn (off := 1305) (tgt := 1338) rfl (by decide) (by decide) rfl (by decide) ?_
      exact law_26 hA hL hk hc hs h hnext
    | 27, _ =>
      refine Ev.tableIn (off := 1358) (tgt := 1391) rfl (by decide) (by decide) rfl (by decide) ?_
      exact law_27 hA hL hk hc hs h hnext
    | 28, _ =>
      refine Ev.tableIn (off := 1391) (tgt := 1424) rfl (by decide) (by decide) rfl (by decide) ?_
      exact law_28 hA hL hk hc hs h hnext
    | 29, _ =>
      refine Ev.tableIn (off := 1444) (tgt := 1477) rfl (by decide) (by decide) rfl (by decide) ?_
      exact law_29 hA hL hk hc hs h hnext
    | 30, _ =>
      refine Ev.tableIn (off := 1467) (tgt := 1500) rfl (by decide) (by decide) rfl (by decide) ?_
      exact law_30 hA hL hk hc hs h hnext
    | 31, _ =>
      refine Ev.tableIn (off := 1510) (tgt := 1543) rfl (by decide) (by decide) rfl (by decide) ?_
      exact law_31 hA hL hk hc hs h hnext
    | 32, _ =>
      refine Ev.tableIn (off := 1553) (tgt := 1586) rfl (by decide) (by decide) rfl (by decide) ?_
      exact law_32 hA hL hk hc hs h hnext
    | 33, _ =>
      refine Ev.tableIn (off := 1596) (tgt := 1629) rfl (by decide) (by decide) rfl (by decide) ?_
      exact law_33 hA hL hk hc hs h hnext
    | 34, _ =>
      refine Ev.tableIn (off := 1659) (tgt := 1692) rfl (by decide) (by decide) rfl (by decide) ?_
      exact law_34 hA hL hk hc hs h hnext
    | 35, _ =>
      refine Ev.tableIn (off := 1702) (tgt := 1735) rfl (by decide) (by decide) rfl (by decide) ?_
      exact law_35 hA hL hk hc hs h hnext
    | 36, _ =>
      refine Ev.tableIn (off := 1745) (tgt := 1778) rfl (by decide) (by decide) rfl (by decide) ?_
      exact law_36 hA hL hk hc hs h hnext
    | 37, _ =>
      refine Ev.tableIn (off := 1778) (tgt := 1811) rfl (by decide) (by decide) rfl (by decide) ?_
      exact law_37 hA hL hk hc hs h hnext
    | 38, _ =>
      refine Ev.tableIn (off := 1841) (tgt := 1874) rfl (by decide) (by decide) rfl (by decide) ?_
      exact law_38 hA hL hk hc hs h hnext
    | 39, _ =>
      refine Ev.tableIn (off := 1884) (tgt := 1917) rfl (by decide) (by decide) rfl (by decide) ?_
      exact law_39 hA hL hk hc hs h hnext
    | 40, _ =>
      refine Ev.tableIn (off := 1917) (tgt := 1950) rfl (by decide) (by decide) rfl (by decide) ?_
      exact law_40 hA hL hk hc hs h hnext
    | 41, _ =>
      refine Ev.tableIn (off := 1960) (tgt := 1993) rfl (by decide) (by decide) rfl (by decide) ?_
      exact law_41 hA hL hk hc hs h hnext
    | 42, _ =>
      refine Ev.tableIn (off := 1993) (tgt := 2026) rfl (by decide) (by decide) rfl (by decide) ?_
      exact law_42 hA hL hk hc hs h hnext
    | 43, _ =>
      refine Ev.tableIn (off := 2016) (tgt := 2049) rfl (by decide) (by decide) rfl (by decide) ?_
      exact law_43 hA hL hk hc hs h hnext
    | 44, _ =>
      refine Ev.tableIn (off := 2039) (tgt := 2072) rfl (by decide) (by decide) rfl (by decide) ?_
      exact law_44 hA hL hk hc hs h hnext
    | n + 45, c => exact absurd c (by omega)
  · refine Ev.tableOut (tgt := 2095) rfl (Or.inr ?_) (by decide) ?_
    · rw [nI_toInt (by omega)]
      omega
    · exact hnext σ T I 0 0 (by omega) (by omega) h
set_option maxRecDepth 16384 in
theorem law_loop (hA : (b, 0, L, xs) ∈ gA Γ) (hL : L ≤ 3072) (hq2 : (∀ (k cells slots : Nat) (σ : ex_S) (T : Tol) (I : Nat → Option Tol), 6 * k + 6 ≤ L → cells + 70 ≤ 600000 → slots + 4300 ≤ 7302250 → Inv σ x T I → (∀ (τ : ex_S) (T1 : Tol) (I1 : Nat → Option Tol) (mc ms : Nat), mc ≤ 70 → ms ≤ 4300 → Inv τ x T1 I1 → Ev Γ 600000 7302250 m_Law_law (cells + mc) (slots + ms) 2095 [some (.ref b), some (.ref x), some (.ref (x + 117)), some (.int (nI (6 * k)))] [] τ Q) → Ev Γ 600000 7302250 m_Law_law cells slots 314 [some (.ref b), some (.ref x), some (.ref (x + 117)), some (.int (nI (6 * k)))] [] σ Q)) (hq24 : (∀ (k cells slots : Nat) (σ : ex_S) (T : Tol) (I : Nat → Option Tol), 6 * k + 6 ≤ L → cells + 70 ≤ 600000 → slots + 4300 ≤ 7302250 → Inv σ x T I → (∀ (τ : ex_S) (T1 : Tol) (I1 : Nat → Option Tol) (mc ms : Nat), mc ≤ 70 → ms ≤ 4300 → Inv τ x T1 I1 → Ev Γ 600000 7302250 m_Law_law (cells + mc) (slots + ms) 2095 [some (.ref b), some (.ref x), some (.ref (x + 117)), some (.int (nI (6 * k)))] [] τ Q) → Ev Γ 600000 7302250 m_Law_law cells slots 1222 [some (.ref b), some (.ref x), some (.ref (x + 117)), some (.int (nI (6 * k)))] [] σ Q)) (hQ1 : ∀ τ, Q (some (.int 1)) τ) : ∀ (r k cells slots : Nat) (σ : ex_S) (T : Tol) (I : Nat → Option Tol), L ≤ 6 * k + r → k ≤ 512 → cells ≤ 300 + 70 * k → slots ≤ 20000 + 4300 * k → Inv σ x T I → Ev Γ 600000 7302250 m_Law_law cells slots 18 [some (.ref b), some (.ref x), some (.ref (x + 117)), some (.int (nI (6 * k)))] [] σ Q := by
  intro r
  induction r with
  | zero =>
    intro k cells slots σ T I hr hk5 hc hs h
    refine Ev.iload_n rfl rfl ?_
    refine Ev.aload_n rfl rfl ?_
    refine Ev.alenS rfl hA rfl ?_
    refine Ev.bipush (v := 6) rfl (by decide) ?_
    refine Ev.isub rfl ?_
    refine Ev.icmp_gt (tgt := 2101) rfl (by decide) (fun c => ?_) (fun c => absurd ((len6 hL (by omega)).mpr (by omega)) c)
    refine Ev.iconst (v := 1) rfl (by decide) ?_
    exact Ev.iret (ty := .boolean) rfl rfl rfl (by omega) (by omega) (hQ1 σ)
  | succ r ih =>
    intro k cells slots σ T I hr hk5 hc hs h
    refine Ev.iload_n rfl rfl ?_
    refine Ev.aload_n rfl rfl ?_
    refine Ev.alenS rfl hA rfl ?_
    refine Ev.bipush (v := 6) rfl (by decide) ?_
    refine Ev.isub rfl ?_
    refine Ev.icmp_gt (tgt := 2101) rfl (by decide) (fun c => ?_) (fun c => ?_)
    · refine Ev.iconst (v := 1) rfl (by decide) ?_
      exact Ev.iret (ty := .boolean) rfl rfl rfl (by omega) (by omega) (hQ1 σ)
    · have hk : 6 * k + 6 ≤ L := Nat.le_of_not_lt (fun q => c ((len6 hL (by omega)).mpr q))
      refine Ev.aload_n rfl rfl ?_
      refine Ev.iload_n rfl rfl ?_
      refine Ev.ialdSN (k := 6 * k) rfl hA rfl ⟨by omega, by omega⟩ ?_
      refine Ev.bipush (v := 63) rfl (by decide) ?_
      refine Ev.iand rfl ?_
      obtain ⟨n, hn, e⟩ := and63 (xs (6 * k))
      rw [e]
      refine law_table hA hL hq2 hq24 hk (by omega) (by omega) h (fun τ T1 I1 mc ms a1 a2 h1 => ?_) hn
      refine Ev.iinc (d := 6) rfl rfl rfl (by decide) rfl ?_
      refine Ev.goto (tgt := 18) rfl (by decide) ?_
      exact (ih (k + 1) (cells + mc) (slots + ms) τ T1 I1 (by omega) (by omega) (by omega) (by omega) h1).fg (gs rfl (gs rfl (gs rfl (gs (congrArg Value.int (show nI (6 * (k + 1)) = nI (6 * k) + (6 : Int32) from (nq_to (a := 6 * (k + 1)) (nq_add (a := 6 * k) (b := 6) rfl rfl) (by omega)).symm)) gz))))
end
end
