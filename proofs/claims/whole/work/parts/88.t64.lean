/-! The law: text. -/
noncomputable section
section
variable {Γ : ex_G} {b L x k cells slots : Nat} {xs : Nat → Int32} {Q : Option Value → ex_S → Prop}
/- text -/
set_option maxRecDepth 16384 in
theorem law_2 (hRt : rdst Γ) (hFR : frst Γ) (hw0 : wtx Γ 0 90 (fun k => wdS.getD k 0)) (hw1 : wtx Γ 1 31 (fun k => wdP.getD k 0)) (hA : (b, 0, L, xs) ∈ gA Γ) (hL : L ≤ 3072) (hk : 6 * k + 6 ≤ L) (hc : cells + 70 ≤ 600000) (hs : slots + 4300 ≤ 7302250) {σ : ex_S} {T : Tol} {I : Nat → Option Tol} (h : Inv σ x T I) (hnext : ∀ (τ : ex_S) (T1 : Tol) (I1 : Nat → Option Tol) (mc ms : Nat), mc ≤ 70 → ms ≤ 4300 → Inv τ x T1 I1 → Ev Γ 600000 7302250 m_Law_law (cells + mc) (slots + ms) 2095 [some (.ref b), some (.ref x), some (.ref (x + 117)), some (.int (nI (6 * k)))] [] τ Q) : Ev Γ 600000 7302250 m_Law_law cells slots 314 [some (.ref b), some (.ref x), some (.ref (x + 117)), some (.int (nI (6 * k)))] [] σ Q := by
  refine Ev.aload_n rfl rfl ?_
  refine Ev.aload_n rfl rfl ?_
  refine Ev.iload_n rfl rfl ?_
  refine Ev.iconst (v := 1) rfl (by decide) ?_
  refine Ev.iadd rfl ?_
  refine Ev.ialdSN (k := 6 * k + 1) rfl hA (nq_add (a := 6 * k) (b := 1) rfl rfl) ⟨by omega, by omega⟩ ?_
  refine Ev.aload_n rfl rfl ?_
  refine Ev.iload_n rfl rfl ?_
  refine Ev.iconst (v := 2) rfl (by decide) ?_
  refine Ev.iadd rfl ?_
  refine Ev.ialdSN (k := 6 * k + 2) rfl hA (nq_add (a := 6 * k) (b := 2) rfl rfl) ⟨by omega, by omega⟩ ?_
  obtain ⟨v, T1, I1, ⟨mc, ms, a1, a2, hC⟩, hM1⟩ := pr_text (Γ := Γ) (x := x) hRt hFR hw0 hw1 (xs (6 * k + 1)) (xs (6 * k + 2)) σ T I h
  refine Ev.callV (as := [.int (xs (6 * k + 1)), .int (xs (6 * k + 2))]) (st := []) rfl rfl h.1.1 rfl rfl rfl rfl (Nat.le_of_ble_eq_true rfl) ⟨by omega, by omega⟩ hC (fun r τ q => ?_)
  obtain ⟨rfl, hMid⟩ := q
  obtain ⟨g, A, hMM, -⟩ := hMid.m
  change Ev Γ 600000 7302250 m_Law_law (cells + mc) (slots + ms) 328 [some (.ref b), some (.ref x), some (.ref (x + 117)), some (.int (nI (6 * k)))] [.int v] τ Q
  refine Ev.aload_n rfl rfl ?_
  refine Ev.aload_n rfl rfl ?_
  refine Ev.iload_n rfl rfl ?_
  refine Ev.iconst (v := 1) rfl (by decide) ?_
  refine Ev.iadd rfl ?_
  refine Ev.ialdSN (k := 6 * k + 1) rfl hA (nq_add (a := 6 * k) (b := 1) rfl rfl) ⟨by omega, by omega⟩ ?_
  refine Ev.aload_n rfl rfl ?_
  refine Ev.iload_n rfl rfl ?_
  refine Ev.iconst (v := 2) rfl (by decide) ?_
  refine Ev.iadd rfl ?_
  refine Ev.ialdSN (k := 6 * k + 2) rfl hA (nq_add (a := 6 * k) (b := 2) rfl rfl) ⟨by omega, by omega⟩ ?_
  refine Ev.callV (mc := 0) (ms := 0) (as := [.int (xs (6 * k + 1)), .int (xs (6 * k + 2))]) (st := [.int v]) rfl rfl hMM.1 rfl rfl rfl rfl (Nat.le_of_ble_eq_true rfl) ⟨by omega, by omega⟩ (hM1 τ hMid) (fun r υ q => ?_)
  obtain ⟨rfl, hI1⟩ := q
  change Ev Γ 600000 7302250 m_Law_law (cells + mc) (slots + ms) 342 [some (.ref b), some (.ref x), some (.ref (x + 117)), some (.int (nI (6 * k)))] [.int v, .int v] υ Q
  refine Ev.icmp_eq (tgt := 2095) rfl (by decide) (fun _ => ?_) (fun c => absurd rfl c)
  exact hnext υ T1 I1 mc ms a1 a2 hI1
end
end
