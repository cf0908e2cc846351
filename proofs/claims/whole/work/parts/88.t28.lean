/-! The law: its cases 30 to 44. -/
noncomputable section
section
variable {Γ : ex_G} {b L x k cells slots : Nat} {xs : Nat → Int32} {Q : Option Value → ex_S → Prop}
/- shift -/
set_option maxRecDepth 16384 in
theorem law_30 (hA : (b, 0, L, xs) ∈ gA Γ) (hL : L ≤ 3072) (hk : 6 * k + 6 ≤ L) (hc : cells + 70 ≤ 600000) (hs : slots + 4300 ≤ 7302250) {σ : ex_S} {T : Tol} {I : Nat → Option Tol} (h : Inv σ x T I) (hnext : ∀ (τ : ex_S) (T1 : Tol) (I1 : Nat → Option Tol) (mc ms : Nat), mc ≤ 70 → ms ≤ 4300 → Inv τ x T1 I1 → Ev Γ 600000 7302250 m_Law_law (cells + mc) (slots + ms) 2095 [some (.ref b), some (.ref x), some (.ref (x + 117)), some (.int (nI (6 * k)))] [] τ Q) : Ev Γ 600000 7302250 m_Law_law cells slots 1500 [some (.ref b), some (.ref x), some (.ref (x + 117)), some (.int (nI (6 * k)))] [] σ Q := by
  refine Ev.aload_n rfl rfl ?_
  refine Ev.aload_n rfl rfl ?_
  refine Ev.iload_n rfl rfl ?_
  refine Ev.iconst (v := 1) rfl (by decide) ?_
  refine Ev.iadd rfl ?_
  refine Ev.ialdSN (k := 6 * k + 1) rfl hA (nq_add (a := 6 * k) (b := 1) rfl rfl) ⟨by omega, by omega⟩ ?_
  refine Ev.aload_n rfl rfl ?_
  refine Ev.iload_n rfl rfl ?_
  refine Ev.iconst (v := 2) rfl (by decide) ?_
  refine Ev.iadd rfl ?_
  refine Ev.ialdSN (k := 6 * k + 2) rfl hA (nq_add (a := 6 * k) (b := 2) rfl rfl) ⟨by omega, by omega⟩ ?_
  refine Ev.aload_n rfl rfl ?_
  refine Ev.iload_n rfl rfl ?_
  refine Ev.iconst (v := 3) rfl (by decide) ?_
  refine Ev.iadd rfl ?_
  refine Ev.ialdSN (k := 6 * k + 3) rfl hA (nq_add (a := 6 * k) (b := 3) rfl rfl) ⟨by omega, by omega⟩ ?_
  obtain ⟨v, T1, I1, ⟨mc, ms, a1, a2, hC⟩, hM1⟩ := pr_shift (Γ := Γ) (x := x) (xs (6 * k + 1)) (xs (6 * k + 2)) (xs (6 * k + 3)) σ T I h
  refine Ev.callV (as := [.int (xs (6 * k + 1)), .int (xs (6 * k + 2)), .int (xs (6 * k + 3))]) (st := []) rfl rfl h.1.1 rfl rfl rfl rfl (Nat.le_of_ble_eq_true rfl) ⟨by omega, by omega⟩ hC (fun r τ q => ?_)
  obtain ⟨rfl, hMid⟩ := q
  obtain ⟨g, A, hMM, -⟩ := hMid.m
  change Ev Γ 600000 7302250 m_Law_law (cells + mc) (slots + ms) 1519 [some (.ref b), some (.ref x), some (.ref (x + 117)), some (.int (nI (6 * k)))] [.int v] τ Q
  refine Ev.aload_n rfl rfl ?_
  refine Ev.aload_n rfl rfl ?_
  refine Ev.iload_n rfl rfl ?_
  refine Ev.iconst (v := 1) rfl (by decide) ?_
  refine Ev.iadd rfl ?_
  refine Ev.ialdSN (k := 6 * k + 1) rfl hA (nq_add (a := 6 * k) (b := 1) rfl rfl) ⟨by omega, by omega⟩ ?_
  refine Ev.aload_n rfl rfl ?_
  refine Ev.iload_n rfl rfl ?_
  refine Ev.iconst (v := 2) rfl (by decide) ?_
  refine Ev.iadd rfl ?_
  refine Ev.ialdSN (k := 6 * k + 2) rfl hA (nq_add (a := 6 * k) (b := 2) rfl rfl) ⟨by omega, by omega⟩ ?_
  refine Ev.aload_n rfl rfl ?_
  refine Ev.iload_n rfl rfl ?_
  refine Ev.iconst (v := 3) rfl (by decide) ?_
  refine Ev.iadd rfl ?_
  refine Ev.ialdSN (k := 6 * k + 3) rfl hA (nq_add (a := 6 * k) (b := 3) rfl rfl) ⟨by omega, by omega⟩ ?_
  refine Ev.callV (mc := 0) (ms := 0) (as := [.int (xs (6 * k + 1)), .int (xs (6 * k + 2)), .int (xs (6 * k + 3))]) (st := [.int v]) rfl rfl hMM.1 rfl rfl rfl rfl (Nat.le_of_ble_eq_true rfl) ⟨by omega, by omega⟩ (hM1 τ hMid) (fun r υ q => ?_)
  obtain ⟨rfl, hI1⟩ := q
  change Ev Γ 600000 7302250 m_Law_law (cells + mc) (slots + ms) 1538 [some (.ref b), some (.ref x), some (.ref (x + 117)), some (.int (nI (6 * k)))] [.int v, .int v] υ Q
  refine Ev.icmp_eq (tgt := 2095) rfl (by decide) (fun _ => ?_) (fun c => absurd rfl c)
  exact hnext υ T1 I1 mc ms a1 a2 hI1
/- order -/
set_option maxRecDepth 16384 in
theorem law_31 (hA : (b, 0, L, xs) ∈ gA Γ) (hL : L ≤ 3072) (hk : 6 * k + 6 ≤ L) (hc : cells + 70 ≤ 600000) (hs : slots + 4300 ≤ 7302250) {σ : ex_S} {T : Tol} {I : Nat → Option Tol} (h : Inv σ x T I) (hnext : ∀ (τ : ex_S) (T1 : Tol) (I1 : Nat → Option Tol) (mc ms : Nat), mc ≤ 70 → ms ≤ 4300 → Inv τ x T1 I1 → Ev Γ 600000 7302250 m_Law_law (cells + mc) (slots + ms) 2095 [some (.ref b), some (.ref x), some (.ref (x + 117)), some (.int (nI (6 * k)))] [] τ Q) : Ev Γ 600000 7302250 m_Law_law cells slots 1543 [some (.ref b), some (.ref x), some (.ref (x + 117)), some (.int (nI (6 * k)))] [] σ Q := by
  refine Ev.aload_n rfl rfl ?_
  refine Ev.aload_n rfl rfl ?_
  refine Ev.iload_n rfl rfl ?_
  refine Ev.iconst (v := 1) rfl (by decide) ?_
  refine Ev.iadd rfl ?_
  refine Ev.ialdSN (k := 6 * k + 1) rfl hA (nq_add (a := 6 * k) (b := 1) rfl rfl) ⟨by omega, by omega⟩ ?_
  refine Ev.aload_n rfl rfl ?_
  refine Ev.iload_n rfl rfl ?_
  refine Ev.iconst (v := 2) rfl (by decide) ?_
  refine Ev.iadd rfl ?_
  refine Ev.ialdSN (k := 6 * k + 2) rfl hA (nq_add (a := 6 * k) (b := 2) rfl rfl) ⟨by omega, by omega⟩ ?_
  refine Ev.aload_n rfl rfl ?_
  refine Ev.iload_n rfl rfl ?_
  refine Ev.iconst (v := 3) rfl (by decide) ?_
  refine Ev.iadd rfl ?_
  refine Ev.ialdSN (k := 6 * k + 3) rfl hA (nq_add (a := 6 * k) (b := 3) rfl rfl) ⟨by omega, by omega⟩ ?_
  obtain ⟨v, T1, I1, ⟨mc, ms, a1, a2, hC⟩, hM1⟩ := pr_order (Γ := Γ) (x := x) (xs (6 * k + 1)) (xs (6 * k + 2)) (xs (6 * k + 3)) σ T I h
  refine Ev.callV (as := [.int (xs (6 * k + 1)), .int (xs (6 * k + 2)), .int (xs (6 * k + 3))]) (st := []) rfl rfl h.1.1 rfl rfl rfl rfl (Nat.le_of_ble_eq_true rfl) ⟨by omega, by omega⟩ hC (fun r τ q => ?_)
  obtain ⟨rfl, hMid⟩ := q
  obtain ⟨g, A, hMM, -⟩ := hMid.m
  change Ev Γ 600000 7302250 m_Law_law (cells + mc) (slots + ms) 1562 [some (.ref b), some (.ref x), some (.ref (x + 117)), some (.int (nI (6 * k)))] [.int v] τ Q
  refine Ev.aload_n rfl rfl ?_
  refine Ev.aload_n rfl rfl ?_
  refine Ev.iload_n rfl rfl ?_
  refine Ev.iconst (v := 1) rfl (by decide) ?_
  refine Ev.iadd rfl ?_
  refine Ev.ialdSN (k := 6 * k + 1) rfl hA (nq_add (a := 6 * k) (b := 1) rfl rfl) ⟨by omega, by omega⟩ ?_
  refine Ev.aload_n rfl rfl ?_
  refine Ev.iload_n rfl rfl ?_
  refine Ev.iconst (v := 2) rfl (by decide) ?_
  refine Ev.iadd rfl ?_
  refine Ev.ialdSN (k := 6 * k + 2) rfl hA (nq_add (a := 6 * k) (b := 2) rfl rfl) ⟨by omega, by omega⟩ ?_
  refine Ev.aload_n rfl rfl ?_
  refine Ev.iload_n rfl rfl ?_
  refine Ev.iconst (v := 3) rfl (by decide) ?_
  refine Ev.iadd rfl ?_
  refine Ev.ialdSN (k := 6 * k + 3) rfl hA (nq_add (a := 6 * k) (b := 3) rfl rfl) ⟨by omega, by omega⟩ ?_
  refine Ev.callV (mc := 0) (ms := 0) (as := [.int (xs (6 * k + 1)), .int (xs (6 * k + 2)), .int (xs (6 * k + 3))]) (st := [.int v]) rfl rfl hMM.1 rfl rfl rfl rfl (Nat.le_of_ble_eq_true rfl) ⟨by omega, by omega⟩ (hM1 τ hMid) (fun r υ q => ?_)
  obtain ⟨rfl, hI1⟩ := q
  change Ev Γ 600000 7302250 m_Law_law (cells + mc) (slots + ms) 1581 [some (.ref b), some (.ref x), some (.ref (x + 117)), some (.int (nI (6 * k)))] [.int v, .int v] υ Q
  refine Ev.icmp_eq (tgt := 2095) rfl (by decide) (fun _ => ?_) (fun c => absurd rfl c)
  exact hnext υ T1 I1 mc ms a1 a2 hI1
/- let -/
set_option maxRecDepth 16384 in
theorem law_32 (hA : (b, 0, L, xs) ∈ gA Γ) (hL : L ≤ 3072) (hk : 6 * k + 6 ≤ L) (hc : cells + 70 ≤ 600000) (hs : slots + 4300 ≤ 7302250) {σ : ex_S} {T : Tol} {I : Nat → Option Tol} (h : Inv σ x T I) (hnext : ∀ (τ : ex_S) (T1 : Tol) (I1 : Nat → Option Tol) (mc ms : Nat), mc ≤ 70 → ms ≤ 4300 → Inv τ x T1 I1 → Ev Γ 600000 7302250 m_Law_law (cells + mc) (slots + ms) 2095 [some (.ref b), some (.ref x), some (.ref (x + 117)), some (.int (nI (6 * k)))] [] τ Q) : Ev Γ 600000 7302250 m_Law_law cells slots 1586 [some (.ref b), some (.ref x), some (.ref (x + 117)), some (.int (nI (6 * k)))] [] σ Q := by
  refine Ev.aload_n rfl rfl ?_
  refine Ev.aload_n rfl rfl ?_
  refine Ev.iload_n rfl rfl ?_
  refine Ev.iconst (v := 1) rfl (by decide) ?_
  refine Ev.iadd rfl ?_
  refine Ev.ialdSN (k := 6 * k + 1) rfl hA (nq_add (a := 6 * k) (b := 1) rfl rfl) ⟨by omega, by omega⟩ ?_
  refine Ev.aload_n rfl rfl ?_
  refine Ev.iload_n rfl rfl ?_
  refine Ev.iconst (v := 2) rfl (by decide) ?_
  refine Ev.iadd rfl ?_
  refine Ev.ialdSN (k := 6 * k + 2) rfl hA (nq_add (a := 6 * k) (b := 2) rfl rfl) ⟨by omega, by omega⟩ ?_
  refine Ev.aload_n rfl rfl ?_
  refine Ev.iload_n rfl rfl ?_
  refine Ev.iconst (v := 3) rfl (by decide) ?_
  refine Ev.iadd rfl ?_
  refine Ev.ialdSN (k := 6 * k + 3) rfl hA (nq_add (a := 6 * k) (b := 3) rfl rfl) ⟨by omega, by omega⟩ ?_
  obtain ⟨v, T1, I1, ⟨mc, ms, a1, a2, hC⟩, hM1⟩ := pr_let (Γ := Γ) (x := x) (xs (6 * k + 1)) (xs (6 * k + 2)) (xs (6 * k + 3)) σ T I h
  refine Ev.callV (as := [.int (xs (6 * k + 1)), .int (xs (6 * k + 2)), .int (xs (6 * k + 3))]) (st := []) rfl rfl h.1.1 rfl rfl rfl rfl (Nat.le_of_ble_eq_true rfl) ⟨by omega, by omega⟩ hC (fun r τ q => ?_)
  obtain ⟨rfl, hMid⟩ := q
  obtain ⟨g, A, hMM, -⟩ := hMid.m
  change Ev Γ 600000 7302250 m_Law_law (cells + mc) (slots + ms) 1605 [some (.ref b), some (.ref x), some (.ref (x + 117)), some (.int (nI (6 * k)))] [.int v] τ Q
  refine Ev.aload_n rfl rfl ?_
  refine Ev.aload_n rfl rfl ?_
  refine Ev.iload_n rfl rfl ?_
  refine Ev.iconst (v := 1) rfl (by decide) ?_
  refine Ev.iadd rfl ?_
  refine Ev.ialdSN (k := 6 * k + 1) rfl hA (nq_add (a := 6 * k) (b := 1) rfl rfl) ⟨by omega, by omega⟩ ?_
  refine Ev.aload_n rfl rfl ?_
  refine Ev.iload_n rfl rfl ?_
  refine Ev.iconst (v := 2) rfl (by decide) ?_
  refine Ev.iadd rfl ?_
  refine Ev.ialdSN (k := 6 * k + 2) rfl hA (nq_add (a := 6 * k) (b := 2) rfl rfl) ⟨by omega, by omega⟩ ?_
  refine Ev.aload_n rfl rfl ?_
  refine Ev.iload_n rfl rfl ?_
  refine Ev.iconst (v := 3) rfl (by decide) ?_
  refine Ev.iadd rfl ?_
  refine Ev.ialdSN (k := 6 * k + 3) rfl hA (nq_add (a := 6 * k) (b := 3) rfl rfl) ⟨by omega, by omega⟩ ?_
  refine Ev.callV (mc := 0) (ms := 0) (as := [.int (xs (6 * k + 1)), .int (xs (6 * k + 2)), .int (xs (6 * k + 3))]) (st := [.int v]) rfl rfl hMM.1 rfl rfl rfl rfl (Nat.le_of_ble_eq_true rfl) ⟨by omega, by omega⟩ (hM1 τ hMid) (fun r υ q => ?_)
  obtain ⟨rfl, hI1⟩ := q
  change Ev Γ 600000 7302250 m_Law_law (cells + mc) (slots + ms) 1624 [some (.ref b), some (.ref x), some (.ref (x + 117)), some (.int (nI (6 * k)))] [.int v, .int v] υ Q
  refine Ev.icmp_eq (tgt := 2095) rfl (by decide) (fun _ => ?_) (fun c => absurd rfl c)
  exact hnext υ T1 I1 mc ms a1 a2 hI1
/- june -/
set_option maxRecDepth 16384 in
theorem law_33 (hA : (b, 0, L, xs) ∈ gA Γ) (hL : L ≤ 3072) (hk : 6 * k + 6 ≤ L) (hc : cells + 70 ≤ 600000) (hs : slots + 4300 ≤ 7302250) {σ : ex_S} {T : Tol} {I : Nat → Option Tol} (h : Inv σ x T I) (hnext : ∀ (τ : ex_S) (T1 : Tol) (I1 : Nat → Option Tol) (mc ms : Nat), mc ≤ 70 → ms ≤ 4300 → Inv τ x T1 I1 → Ev Γ 600000 7302250 m_Law_law (cells + mc) (slots + ms) 2095 [some (.ref b), some (.ref x), some (.ref (x + 117)), some (.int (nI (6 * k)))] [] τ Q) : Ev Γ 600000 7302250 m_Law_law cells slots 1629 [some (.ref b), some (.ref x), some (.ref (x + 117)), some (.int (nI (6 * k)))] [] σ Q := by
  refine Ev.aload_n rfl rfl ?_
  refine Ev.aload_n rfl rfl ?_
  refine Ev.iload_n rfl rfl ?_
  refine Ev.iconst (v := 1) rfl (by decide) ?_
  refine Ev.iadd rfl ?_
  refine Ev.ialdSN (k := 6 * k + 1) rfl hA (nq_add (a := 6 * k) (b := 1) rfl rfl) ⟨by omega, by omega⟩ ?_
  refine Ev.aload_n rfl rfl ?_
  refine Ev.iload_n rfl rfl ?_
  refine Ev.iconst (v := 2) rfl (by decide) ?_
  refine Ev.iadd rfl ?_
  refine Ev.ialdSN (k := 6 * k + 2) rfl hA (nq_add (a := 6 * k) (b := 2) rfl rfl) ⟨by omega, by omega⟩ ?_
  refine Ev.aload_n rfl rfl ?_
  refine Ev.iload_n rfl rfl ?_
  refine Ev.iconst (v := 3) rfl (by decide) ?_
  refine Ev.iadd rfl ?_
  refine Ev.ialdSN (k := 6 * k + 3) rfl hA (nq_add (a := 6 * k) (b := 3) rfl rfl) ⟨by omega, by omega⟩ ?_
  refine Ev.aload_n rfl rfl ?_
  refine Ev.iload_n rfl rfl ?_
  refine Ev.iconst (v := 4) rfl (by decide) ?_
  refine Ev.iadd rfl ?_
  refine Ev.ialdSN (k := 6 * k + 4) rfl hA (nq_add (a := 6 * k) (b := 4) rfl rfl) ⟨by omega, by omega⟩ ?_
  refine Ev.aload_n rfl rfl ?_
  refine Ev.iload_n rfl rfl ?_
  refine Ev.iconst (v := 5) rfl (by decide) ?_
  refine Ev.iadd rfl ?_
  refine Ev.ialdSN (k := 6 * k + 5) rfl hA (nq_add (a := 6 * k) (b := 5) rfl rfl) ⟨by omega, by omega⟩ ?_
  obtain ⟨v, T1, I1, ⟨mc, ms, a1, a2, hC⟩, hM1⟩ := pr_june (Γ := Γ) (x := x) (xs (6 * k + 1)) (xs (6 * k + 2)) (xs (6 * k + 3)) (xs (6 * k + 4)) (xs (6 * k + 5)) σ T I h
  refine Ev.callV (as := [.int (xs (6 * k + 1)), .int (xs (6 * k + 2)), .int (xs (6 * k + 3)), .int (xs (6 * k + 4)), .int (xs (6 * k + 5))]) (st := []) rfl rfl h.1.1 rfl rfl rfl rfl (Nat.le_of_ble_eq_true rfl) ⟨by omega, by omega⟩ hC (fun r τ q => ?_)
  obtain ⟨rfl, hMid⟩ := q
  obtain ⟨g, A, hMM, -⟩ := hMid.m
  change Ev Γ 600000 7302250 m_Law_law (cells + mc) (slots + ms) 1658 [some (.ref b), some (.ref x), some (.ref (x + 117)), some (.int (nI (6 * k)))] [.int v] τ Q
  refine Ev.aload_n rfl rfl ?_
  refine Ev.aload_n rfl rfl ?_
  refine Ev.iload_n rfl rfl ?_
  refine Ev.iconst (v := 1) rfl (by decide) ?_
  refine Ev.iadd rfl ?_
  refine Ev.ialdSN (k := 6 * k + 1) rfl hA (nq_add (a := 6 * k) (b := 1) rfl rfl) ⟨by omega, by omega⟩ ?_
  refine Ev.aload_n rfl rfl ?_
  refine Ev.iload_n rfl rfl ?_
  refine Ev.iconst (v := 2) rfl (by decide) ?_
  refine Ev.iadd rfl ?_
  refine Ev.ialdSN (k := 6 * k + 2) rfl hA (nq_add (a := 6 * k) (b := 2) rfl rfl) ⟨by omega, by omega⟩ ?_
  refine Ev.aload_n rfl rfl ?_
  refine Ev.iload_n rfl rfl ?_
  refine Ev.iconst (v := 3) rfl (by decide) ?_
  refine Ev.iadd rfl ?_
  refine Ev.ialdSN (k := 6 * k + 3) rfl hA (nq_add (a := 6 * k) (b := 3) rfl rfl) ⟨by omega, by omega⟩ ?_
  refine Ev.aload_n rfl rfl ?_
  refine Ev.iload_n rfl rfl ?_
  refine Ev.iconst (v := 4) rfl (by decide) ?_
  refine Ev.iadd rfl ?_
  refine Ev.ialdSN (k := 6 * k + 4) rfl hA (nq_add (a := 6 * k) (b := 4) rfl rfl) ⟨by omega, by omega⟩ ?_
  refine Ev.aload_n rfl rfl ?_
  refine Ev.iload_n rfl rfl ?_
  refine Ev.iconst (v := 5) rfl (by decide) ?_
  refine Ev.iadd rfl ?_
  refine Ev.ialdSN (k := 6 * k + 5) rfl hA (nq_add (a := 6 * k) (b := 5) rfl rfl) ⟨by omega, by omega⟩ ?_
  refine Ev.callV (mc := 0) (ms := 0) (as := [.int (xs (6 * k + 1)), .int (xs (6 * k + 2)), .int (xs (6 * k + 3)), .int (xs (6 * k + 4)), .int (xs (6 * k + 5))]) (st := [.int v]) rfl rfl hMM.1 rfl rfl rfl rfl (Nat.le_of_ble_eq_true rfl) ⟨by omega, by omega⟩ (hM1 τ hMid) (fun r υ q => ?_)
  obtain ⟨rfl, hI1⟩ := q
  change Ev Γ 600000 7302250 m_Law_law (cells + mc) (slots + ms) 1687 [some (.ref b), some (.ref x), some (.ref (x + 117)), some (.int (nI (6 * k)))] [.int v, .int v] υ Q
  refine Ev.icmp_eq (tgt := 2095) rfl (by decide) (fun _ => ?_) (fun c => absurd rfl c)
  exact hnext υ T1 I1 mc ms a1 a2 hI1
/- merge -/
set_option maxRecDepth 16384 in
theorem law_34 (hA : (b, 0, L, xs) ∈ gA Γ) (hL : L ≤ 3072) (hk : 6 * k + 6 ≤ L) (hc : cells + 70 ≤ 600000) (hs : slots + 4300 ≤ 7302250) {σ : ex_S} {T : Tol} {I : Nat → Option Tol} (h : Inv σ x T I) (hnext : ∀ (τ : ex_S) (T1 : Tol) (I1 : Nat → Option Tol) (mc ms : Nat), mc ≤ 70 → ms ≤ 4300 → Inv τ x T1 I1 → Ev Γ 600000 7302250 m_Law_law (cells + mc) (slots + ms) 2095 [some (.ref b), some (.ref x), some (.ref (x + 117)), some (.int (nI (6 * k)))] [] τ Q) : Ev Γ 600000 7302250 m_Law_law cells slots 1692 [some (.ref b), some (.ref x), some (.ref (x + 117)), some (.int (nI (6 * k)))] [] σ Q := by
  refine Ev.aload_n rfl rfl ?_
  refine Ev.aload_n rfl rfl ?_
  refine Ev.iload_n rfl rfl ?_
  refine Ev.iconst (v := 1) rfl (by decide) ?_
  refine Ev.iadd rfl ?_
  refine Ev.ialdSN (k := 6 * k + 1) rfl hA (nq_add (a := 6 * k) (b := 1) rfl rfl) ⟨by omega, by omega⟩ ?_
  refine Ev.aload_n rfl rfl ?_
  refine Ev.iload_n rfl rfl ?_
  refine Ev.iconst (v := 2) rfl (by decide) ?_
  refine Ev.iadd rfl ?_
  refine Ev.ialdSN (k := 6 * k + 2) rfl hA (nq_add (a := 6 * k) (b := 2) rfl rfl) ⟨by omega, by omega⟩ ?_
  refine Ev.aload_n rfl rfl ?_
  refine Ev.iload_n rfl rfl ?_
  refine Ev.iconst (v := 3) rfl (by decide) ?_
  refine Ev.iadd rfl ?_
  refine Ev.ialdSN (k := 6 * k + 3) rfl hA (nq_add (a := 6 * k) (b := 3) rfl rfl) ⟨by omega, by omega⟩ ?_
  obtain ⟨v, T1, I1, ⟨mc, ms, a1, a2, hC⟩, hM1⟩ := pr_merge (Γ := Γ) (x := x) (xs (6 * k + 1)) (xs (6 * k + 2)) (xs (6 * k + 3)) σ T I h
  refine Ev.callV (as := [.int (xs (6 * k + 1)), .int (xs (6 * k + 2)), .int (xs (6 * k + 3))]) (st := []) rfl rfl h.1.1 rfl rfl rfl rfl (Nat.le_of_ble_eq_true rfl) ⟨by omega, by omega⟩ hC (fun r τ q => ?_)
  obtain ⟨rfl, hMid⟩ := q
  obtain ⟨g, A, hMM, -⟩ := hMid.m
  change Ev Γ 600000 7302250 m_Law_law (cells + mc) (slots + ms) 1711 [some (.ref b), some (.ref x), some (.ref (x + 117)), some (.int (nI (6 * k)))] [.int v] τ Q
  refine Ev.aload_n rfl rfl ?_
  refine Ev.aload_n rfl rfl ?_
  refine Ev.iload_n rfl rfl ?_
  refine Ev.iconst (v := 1) rfl (by decide) ?_
  refine Ev.iadd rfl ?_
  refine Ev.ialdSN (k := 6 * k + 1) rfl hA (nq_add (a := 6 * k) (b := 1) rfl rfl) ⟨by omega, by omega⟩ ?_
  refine Ev.aload_n rfl rfl ?_
  refine Ev.iload_n rfl rfl ?_
  refine Ev.iconst (v := 2) rfl (by decide) ?_
  refine Ev.iadd rfl ?_
  refine Ev.ialdSN (k := 6 * k + 2) rfl hA (nq_add (a := 6 * k) (b := 2) rfl rfl) ⟨by omega, by omega⟩ ?_
  refine Ev.aload_n rfl rfl ?_
  refine Ev.iload_n rfl rfl ?_
  refine Ev.iconst (v := 3) rfl (by decide) ?_
  refine Ev.iadd rfl ?_
  refine Ev.ialdSN (k := 6 * k + 3) rfl hA (nq_add (a := 6 * k) (b := 3) rfl rfl) ⟨by omega, by omega⟩ ?_
  refine Ev.callV (mc := 0) (ms := 0) (as := [.int (xs (6 * k + 1)), .int (xs (6 * k + 2)), .int (xs (6 * k + 3))]) (st := [.int v]) rfl rfl hMM.1 rfl rfl rfl rfl (Nat.le_of_ble_eq_true rfl) ⟨by omega, by omega⟩ (hM1 τ hMid) (fun r υ q => ?_)
  obtain ⟨rfl, hI1⟩ := q
  change Ev Γ 600000 7302250 m_Law_law (cells + mc) (slots + ms) 1730 [some (.ref b), some (.ref x), some (.ref (x + 117)), some (.int (nI (6 * k)))] [.int v, .int v] υ Q
  refine Ev.icmp_eq (tgt := 2095) rfl (by decide) (fun _ => ?_) (fun c => absurd rfl c)
  exact hnext υ T1 I1 mc ms a1 a2 hI1
/- open -/
set_option maxRecDepth 16384 in
theorem law_35 (hA : (b, 0, L, xs) ∈ gA Γ) (hL : L ≤ 3072) (hk : 6 * k + 6 ≤ L) (hc : cells + 70 ≤ 600000) (hs : slots + 4300 ≤ 7302250) {σ : ex_S} {T : Tol} {I : Nat → Option Tol} (h : Inv σ x T I) (hnext : ∀ (τ : ex_S) (T1 : Tol) (I1 : Nat → Option Tol) (mc ms : Nat), mc ≤ 70 → ms ≤ 4300 → Inv τ x T1 I1 → Ev Γ 600000 7302250 m_Law_law (cells + mc) (slots + ms) 2095 [some (.ref b), some (.ref x), some (.ref (x + 117)), some (.int (nI (6 * k)))] [] τ Q) : Ev Γ 600000 7302250 m_Law_law cells slots 1735 [some (.ref b), some (.ref x), some (.ref (x + 117)), some (.int (nI (6 * k)))] [] σ Q := by
  refine Ev.aload_n rfl rfl ?_
  refine Ev.aload_n rfl rfl ?_
  refine Ev.iload_n rfl rfl ?_
  refine Ev.iconst (v := 1) rfl (by decide) ?_
  refine Ev.iadd rfl ?_
  refine Ev.ialdSN (k := 6 * k + 1) rfl hA (nq_add (a := 6 * k) (b := 1) rfl rfl) ⟨by omega, by omega⟩ ?_
  refine Ev.aload_n rfl rfl ?_
  refine Ev.iload_n rfl rfl ?_
  refine Ev.iconst (v := 2) rfl (by decide) ?_
  refine Ev.iadd rfl ?_
  refine Ev.ialdSN (k := 6 * k + 2) rfl hA (nq_add (a := 6 * k) (b := 2) rfl rfl) ⟨by omega, by omega⟩ ?_
  refine Ev.aload_n rfl rfl ?_
  refine Ev.iload_n rfl rfl ?_
  refine Ev.iconst (v := 3) rfl (by decide) ?_
  refine Ev.iadd rfl ?_
  refine Ev.ialdSN (k := 6 * k + 3) rfl hA (nq_add (a := 6 * k) (b := 3) rfl rfl) ⟨by omega, by omega⟩ ?_
  obtain ⟨v, T1, I1, ⟨mc, ms, a1, a2, hC⟩, hM1⟩ := pr_open (Γ := Γ) (x := x) (xs (6 * k + 1)) (xs (6 * k + 2)) (xs (6 * k + 3)) σ T I h
  refine Ev.callV (as := [.int (xs (6 * k + 1)), .int (xs (6 * k + 2)), .int (xs (6 * k + 3))]) (st := []) rfl rfl h.1.1 rfl rfl rfl rfl (Nat.le_of_ble_eq_true rfl) ⟨by omega, by omega⟩ hC (fun r τ q => ?_)
  obtain ⟨rfl, hMid⟩ := q
  obtain ⟨g, A, hMM, -⟩ := hMid.m
  change Ev Γ 600000 7302250 m_Law_law (cells + mc) (slots + ms) 1754 [some (.ref b), some (.ref x), some (.ref (x + 117)), some (.int (nI (6 * k)))] [.int v] τ Q
  refine Ev.aload_n rfl rfl ?_
  refine Ev.aload_n rfl rfl ?_
  refine Ev.iload_n rfl rfl ?_
  refine Ev.iconst (v := 1) rfl (by decide) ?_
  refine Ev.iadd rfl ?_
  refine Ev.ialdSN (k := 6 * k + 1) rfl hA (nq_add (a := 6 * k) (b := 1) rfl rfl) ⟨by omega, by omega⟩ ?_
  refine Ev.aload_n rfl rfl ?_
  refine Ev.iload_n rfl rfl ?_
  refine Ev.iconst (v := 2) rfl (by decide) ?_
  refine Ev.iadd rfl ?_
  refine Ev.ialdSN (k := 6 * k + 2) rfl hA (nq_add (a := 6 * k) (b := 2) rfl rfl) ⟨by omega, by omega⟩ ?_
  refine Ev.aload_n rfl rfl ?_
  refine Ev.iload_n rfl rfl ?_
  refine Ev.iconst (v := 3) rfl (by decide) ?_
  refine Ev.iadd rfl ?_
  refine Ev.ialdSN (k := 6 * k + 3) rfl hA (nq_add (a := 6 * k) (b := 3) rfl rfl) ⟨by omega, by omega⟩ ?_
  refine Ev.callV (mc := 0) (ms := 0) (as := [.int (xs (6 * k + 1)), .int (xs (6 * k + 2)), .int (xs (6 * k + 3))]) (st := [.int v]) rfl rfl hMM.1 rfl rfl rfl rfl (Nat.le_of_ble_eq_true rfl) ⟨by omega, by omega⟩ (hM1 τ hMid) (fun r υ q => ?_)
  obtain ⟨rfl, hI1⟩ := q
  change Ev Γ 600000 7302250 m_Law_law (cells + mc) (slots + ms) 1773 [some (.ref b), some (.ref x), some (.ref (x + 117)), some (.int (nI (6 * k)))] [.int v, .int v] υ Q
  refine Ev.icmp_eq (tgt := 2095) rfl (by decide) (fun _ => ?_) (fun c => absurd rfl c)
  exact hnext υ T1 I1 mc ms a1 a2 hI1
/- off -/
set_option maxRecDepth 16384 in
theorem law_36 (hA : (b, 0, L, xs) ∈ gA Γ) (hL : L ≤ 3072) (hk : 6 * k + 6 ≤ L) (hc : cells + 70 ≤ 600000) (hs : slots + 4300 ≤ 7302250) {σ : ex_S} {T : Tol} {I : Nat → Option Tol} (h : Inv σ x T I) (hnext : ∀ (τ : ex_S) (T1 : Tol) (I1 : Nat → Option Tol) (mc ms : Nat), mc ≤ 70 → ms ≤ 4300 → Inv τ x T1 I1 → Ev Γ 600000 7302250 m_Law_law (cells + mc) (slots + ms) 2095 [some (.ref b), some (.ref x), some (.ref (x + 117)), some (.int (nI (6 * k)))] [] τ Q) : Ev Γ 600000 7302250 m_Law_law cells slots 1778 [some (.ref b), some (.ref x), some (.ref (x + 117)), some (.int (nI (6 * k)))] [] σ Q := by
  refine Ev.aload_n rfl rfl ?_
  refine Ev.aload_n rfl rfl ?_
  refine Ev.iload_n rfl rfl ?_
  refine Ev.iconst (v := 1) rfl (by decide) ?_
  refine Ev.iadd rfl ?_
  refine Ev.ialdSN (k := 6 * k + 1) rfl hA (nq_add (a := 6 * k) (b := 1) rfl rfl) ⟨by omega, by omega⟩ ?_
  refine Ev.aload_n rfl rfl ?_
  refine Ev.iload_n rfl rfl ?_
  refine Ev.iconst (v := 2) rfl (by decide) ?_
  refine Ev.iadd rfl ?_
  refine Ev.ialdSN (k := 6 * k + 2) rfl hA (nq_add (a := 6 * k) (b := 2) rfl rfl) ⟨by omega, by omega⟩ ?_
  obtain ⟨v, T1, I1, ⟨mc, ms, a1, a2, hC⟩, hM1⟩ := pr_off (Γ := Γ) (x := x) (xs (6 * k + 1)) (xs (6 * k + 2)) σ T I h
  refine Ev.callV (as := [.int (xs (6 * k + 1)), .int (xs (6 * k + 2))]) (st := []) rfl rfl h.1.1 rfl rfl rfl rfl (Nat.le_of_ble_eq_true rfl) ⟨by omega, by omega⟩ hC (fun r τ q => ?_)
  obtain ⟨rfl, hMid⟩ := q
  obtain ⟨g, A, hMM, -⟩ := hMid.m
  change Ev Γ 600000 7302250 m_Law_law (cells + mc) (slots + ms) 1792 [some (.ref b), some (.ref x), some (.ref (x + 117)), some (.int (nI (6 * k)))] [.int v] τ Q
  refine Ev.aload_n rfl rfl ?_
  refine Ev.aload_n rfl rfl ?_
  refine Ev.iload_n rfl rfl ?_
  refine Ev.iconst (v := 1) rfl (by decide) ?_
  refine Ev.iadd rfl ?_
  refine Ev.ialdSN (k := 6 * k + 1) rfl hA (nq_add (a := 6 * k) (b := 1) rfl rfl) ⟨by omega, by omega⟩ ?_
  refine Ev.aload_n rfl rfl ?_
  refine Ev.iload_n rfl rfl ?_
  refine Ev.iconst (v := 2) rfl (by decide) ?_
  refine Ev.iadd rfl ?_
  refine Ev.ialdSN (k := 6 * k + 2) rfl hA (nq_add (a := 6 * k) (b := 2) rfl rfl) ⟨by omega, by omega⟩ ?_
  refine Ev.callV (mc := 0) (ms := 0) (as := [.int (xs (6 * k + 1)), .int (xs (6 * k + 2))]) (st := [.int v]) rfl rfl hMM.1 rfl rfl rfl rfl (Nat.le_of_ble_eq_true rfl) ⟨by omega, by omega⟩ (hM1 τ hMid) (fun r υ q => ?_)
  obtain ⟨rfl, hI1⟩ := q
  change Ev Γ 600000 7302250 m_Law_law (cells + mc) (slots + ms) 1806 [some (.ref b), some (.ref x), some (.ref (x + 117)), some (.int (nI (6 * k)))] [.int v, .int v] υ Q
  refine Ev.icmp_eq (tgt := 2095) rfl (by decide) (fun _ => ?_) (fun c => absurd rfl c)
  exact hnext υ T1 I1 mc ms a1 a2 hI1
/- holds -/
set_option maxRecDepth 16384 in
theorem law_37 (hA : (b, 0, L, xs) ∈ gA Γ) (hL : L ≤ 3072) (hk : 6 * k + 6 ≤ L) (hc : cells + 70 ≤ 600000) (hs : slots + 4300 ≤ 7302250) {σ : ex_S} {T : Tol} {I : Nat → Option Tol} (h : Inv σ x T I) (hnext : ∀ (τ : ex_S) (T1 : Tol) (I1 : Nat → Option Tol) (mc ms : Nat), mc ≤ 70 → ms ≤ 4300 → Inv τ x T1 I1 → Ev Γ 600000 7302250 m_Law_law (cells + mc) (slots + ms) 2095 [some (.ref b), some (.ref x), some (.ref (x + 117)), some (.int (nI (6 * k)))] [] τ Q) : Ev Γ 600000 7302250 m_Law_law cells slots 1811 [some (.ref b), some (.ref x), some (.ref (x + 117)), some (.int (nI (6 * k)))] [] σ Q := by
  refine Ev.aload_n rfl rfl ?_
  refine Ev.aload_n rfl rfl ?_
  refine Ev.iload_n rfl rfl ?_
  refine Ev.iconst (v := 1) rfl (by decide) ?_
  refine Ev.iadd rfl ?_
  refine Ev.ialdSN (k := 6 * k + 1) rfl hA (nq_add (a := 6 * k) (b := 1) rfl rfl) ⟨by omega, by omega⟩ ?_
  refine Ev.aload_n rfl rfl ?_
  refine Ev.iload_n rfl rfl ?_
  refine Ev.iconst (v := 2) rfl (by decide) ?_
  refine Ev.iadd rfl ?_
  refine Ev.ialdSN (k := 6 * k + 2) rfl hA (nq_add (a := 6 * k) (b := 2) rfl rfl) ⟨by omega, by omega⟩ ?_
  refine Ev.aload_n rfl rfl ?_
  refine Ev.iload_n rfl rfl ?_
  refine Ev.iconst (v := 3) rfl (by decide) ?_
  refine Ev.iadd rfl ?_
  refine Ev.ialdSN (k := 6 * k + 3) rfl hA (nq_add (a := 6 * k) (b := 3) rfl rfl) ⟨by omega, by omega⟩ ?_
  refine Ev.aload_n rfl rfl ?_
  refine Ev.iload_n rfl rfl ?_
  refine Ev.iconst (v := 4) rfl (by decide) ?_
  refine Ev.iadd rfl ?_
  refine Ev.ialdSN (k := 6 * k + 4) rfl hA (nq_add (a := 6 * k) (b := 4) rfl rfl) ⟨by omega, by omega⟩ ?_
  refine Ev.aload_n rfl rfl ?_
  refine Ev.iload_n rfl rfl ?_
  refine Ev.iconst (v := 5) rfl (by decide) ?_
  refine Ev.iadd rfl ?_
  refine Ev.ialdSN (k := 6 * k + 5) rfl hA (nq_add (a := 6 * k) (b := 5) rfl rfl) ⟨by omega, by omega⟩ ?_
  obtain ⟨v, T1, I1, ⟨mc, ms, a1, a2, hC⟩, hM1⟩ := pr_holds (Γ := Γ) (x := x) (xs (6 * k + 1)) (xs (6 * k + 2)) (xs (6 * k + 3)) (xs (6 * k + 4)) (xs (6 * k + 5)) σ T I h
  refine Ev.callV (as := [.int (xs (6 * k + 1)), .int (xs (6 * k + 2)), .int (xs (6 * k + 3)), .int (xs (6 * k + 4)), .int (xs (6 * k + 5))]) (st := []) rfl rfl h.1.1 rfl rfl rfl rfl (Nat.le_of_ble_eq_true rfl) ⟨by omega, by omega⟩ hC (fun r τ q => ?_)
  obtain ⟨rfl, hMid⟩ := q
  obtain ⟨g, A, hMM, -⟩ := hMid.m
  change Ev Γ 600000 7302250 m_Law_law (cells + mc) (slots + ms) 1840 [some (.ref b), some (.ref x), some (.ref (x + 117)), some (.int (nI (6 * k)))] [.int v] τ Q
  refine Ev.aload_n rfl rfl ?_
  refine Ev.aload_n rfl rfl ?_
  refine Ev.iload_n rfl rfl ?_
  refine Ev.iconst (v := 1) rfl (by decide) ?_
  refine Ev.iadd rfl ?_
  refine Ev.ialdSN (k := 6 * k + 1) rfl hA (nq_add (a := 6 * k) (b := 1) rfl rfl) ⟨by omega, by omega⟩ ?_
  refine Ev.aload_n rfl rfl ?_
  refine Ev.iload_n rfl rfl ?_
  refine Ev.iconst (v := 2) rfl (by decide) ?_
  refine Ev.iadd rfl ?_
  refine Ev.ialdSN (k := 6 * k + 2) rfl hA (nq_add (a := 6 * k) (b := 2) rfl rfl) ⟨by omega, by omega⟩ ?_
  refine Ev.aload_n rfl rfl ?_
  refine Ev.iload_n rfl rfl ?_
  refine Ev.iconst (v := 3) rfl (by decide) ?_
  refine Ev.iadd rfl ?_
  refine Ev.ialdSN (k := 6 * k + 3) rfl hA (nq_add (a := 6 * k) (b := 3) rfl rfl) ⟨by omega, by omega⟩ ?_
  refine Ev.aload_n rfl rfl ?_
  refine Ev.iload_n rfl rfl ?_
  refine Ev.iconst (v := 4) rfl (by decide) ?_
  refine Ev.iadd rfl ?_
  refine Ev.ialdSN (k := 6 * k + 4) rfl hA (nq_add (a := 6 * k) (b := 4) rfl rfl) ⟨by omega, by omega⟩ ?_
  refine Ev.aload_n rfl rfl ?_
  refine Ev.iload_n rfl rfl ?_
  refine Ev.iconst (v := 5) rfl (by decide) ?_
  refine Ev.iadd rfl ?_
  refine Ev.ialdSN (k := 6 * k + 5) rfl hA (nq_add (a := 6 * k) (b := 5) rfl rfl) ⟨by omega, by omega⟩ ?_
  refine Ev.callV (mc := 0) (ms := 0) (as := [.int (xs (6 * k + 1)), .int (xs (6 * k + 2)), .int (xs (6 * k + 3)), .int (xs (6 * k + 4)), .int (xs (6 * k + 5))]) (st := [.int v]) rfl rfl hMM.1 rfl rfl rfl rfl (Nat.le_of_ble_eq_true rfl) ⟨by omega, by omega⟩ (hM1 τ hMid) (fun r υ q => ?_)
  obtain ⟨rfl, hI1⟩ := q
  change Ev Γ 600000 7302250 m_Law_law (cells + mc) (slots + ms) 1869 [some (.ref b), some (.ref x), some (.ref (x + 117)), some (.int (nI (6 * k)))] [.int v, .int v] υ Q
  refine Ev.icmp_eq (tgt := 2095) rfl (by decide) (fun _ => ?_) (fun c => absurd rfl c)
  exact hnext υ T1 I1 mc ms a1 a2 hI1
/- spread -/
set_option maxRecDepth 16384 in
theorem law_38 (hA : (b, 0, L, xs) ∈ gA Γ) (hL : L ≤ 3072) (hk : 6 * k + 6 ≤ L) (hc : cells + 70 ≤ 600000) (hs : slots + 4300 ≤ 7302250) {σ : ex_S} {T : Tol} {I : Nat → Option Tol} (h : Inv σ x T I) (hnext : ∀ (τ : ex_S) (T1 : Tol) (I1 : Nat → Option Tol) (mc ms : Nat), mc ≤ 70 → ms ≤ 4300 → Inv τ x T1 I1 → Ev Γ 600000 7302250 m_Law_law (cells + mc) (slots + ms) 2095 [some (.ref b), some (.ref x), some (.ref (x + 117)), some (.int (nI (6 * k)))] [] τ Q) : Ev Γ 600000 7302250 m_Law_law cells slots 1874 [some (.ref b), some (.ref x), some (.ref (x + 117)), some (.int (nI (6 * k)))] [] σ Q := by
  refine Ev.aload_n rfl rfl ?_
  refine Ev.aload_n rfl rfl ?_
  refine Ev.iload_n rfl rfl ?_
  refine Ev.iconst (v := 1) rfl (by decide) ?_
  refine Ev.iadd rfl ?_
  refine Ev.ialdSN (k := 6 * k + 1) rfl hA (nq_add (a := 6 * k) (b := 1) rfl rfl) ⟨by omega, by omega⟩ ?_
  refine Ev.aload_n rfl rfl ?_
  refine Ev.iload_n rfl rfl ?_
  refine Ev.iconst (v := 2) rfl (by decide) ?_
  refine Ev.iadd rfl ?_
  refine Ev.ialdSN (k := 6 * k + 2) rfl hA (nq_add (a := 6 * k) (b := 2) rfl rfl) ⟨by omega, by omega⟩ ?_
  refine Ev.aload_n rfl rfl ?_
  refine Ev.iload_n rfl rfl ?_
  refine Ev.iconst (v := 3) rfl (by decide) ?_
  refine Ev.iadd rfl ?_
  refine Ev.ialdSN (k := 6 * k + 3) rfl hA (nq_add (a := 6 * k) (b := 3) rfl rfl) ⟨by omega, by omega⟩ ?_
  obtain ⟨v, T1, I1, ⟨mc, ms, a1, a2, hC⟩, hM1⟩ := pr_spread (Γ := Γ) (x := x) (xs (6 * k + 1)) (xs (6 * k + 2)) (xs (6 * k + 3)) σ T I h
  refine Ev.callV (as := [.int (xs (6 * k + 1)), .int (xs (6 * k + 2)), .int (xs (6 * k + 3))]) (st := []) rfl rfl h.1.1 rfl rfl rfl rfl (Nat.le_of_ble_eq_true rfl) ⟨by omega, by omega⟩ hC (fun r τ q => ?_)
  obtain ⟨rfl, hMid⟩ := q
  obtain ⟨g, A, hMM, -⟩ := hMid.m
  change Ev Γ 600000 7302250 m_Law_law (cells + mc) (slots + ms) 1893 [some (.ref b), some (.ref x), some (.ref (x + 117)), some (.int (nI (6 * k)))] [.int v] τ Q
  refine Ev.aload_n rfl rfl ?_
  refine Ev.aload_n rfl rfl ?_
  refine Ev.iload_n rfl rfl ?_
  refine Ev.iconst (v := 1) rfl (by decide) ?_
  refine Ev.iadd rfl ?_
  refine Ev.ialdSN (k := 6 * k + 1) rfl hA (nq_add (a := 6 * k) (b := 1) rfl rfl) ⟨by omega, by omega⟩ ?_
  refine Ev.aload_n rfl rfl ?_
  refine Ev.iload_n rfl rfl ?_
  refine Ev.iconst (v := 2) rfl (by decide) ?_
  refine Ev.iadd rfl ?_
  refine Ev.ialdSN (k := 6 * k + 2) rfl hA (nq_add (a := 6 * k) (b := 2) rfl rfl) ⟨by omega, by omega⟩ ?_
  refine Ev.aload_n rfl rfl ?_
  refine Ev.iload_n rfl rfl ?_
  refine Ev.iconst (v := 3) rfl (by decide) ?_
  refine Ev.iadd rfl ?_
  refine Ev.ialdSN (k := 6 * k + 3) rfl hA (nq_add (a := 6 * k) (b := 3) rfl rfl) ⟨by omega, by omega⟩ ?_
  refine Ev.callV (mc := 0) (ms := 0) (as := [.int (xs (6 * k + 1)), .int (xs (6 * k + 2)), .int (xs (6 * k + 3))]) (st := [.int v]) rfl rfl hMM.1 rfl rfl rfl rfl (Nat.le_of_ble_eq_true rfl) ⟨by omega, by omega⟩ (hM1 τ hMid) (fun r υ q => ?_)
  obtain ⟨rfl, hI1⟩ := q
  change Ev Γ 600000 7302250 m_Law_law (cells + mc) (slots + ms) 1912 [some (.ref b), some (.ref x), some (.ref (x + 117)), some (.int (nI (6 * k)))] [.int v, .int v] υ Q
  refine Ev.icmp_eq (tgt := 2095) rfl (by decide) (fun _ => ?_) (fun c => absurd rfl c)
  exact hnext υ T1 I1 mc ms a1 a2 hI1
/- toll -/
set_option maxRecDepth 16384 in
theorem law_39 (hA : (b, 0, L, xs) ∈ gA Γ) (hL : L ≤ 3072) (hk : 6 * k + 6 ≤ L) (hc : cells + 70 ≤ 600000) (hs : slots + 4300 ≤ 7302250) {σ : ex_S} {T : Tol} {I : Nat → Option Tol} (h : Inv σ x T I) (hnext : ∀ (τ : ex_S) (T1 : Tol) (I1 : Nat → Option Tol) (mc ms : Nat), mc ≤ 70 → ms ≤ 4300 → Inv τ x T1 I1 → Ev Γ 600000 7302250 m_Law_law (cells + mc) (slots + ms) 2095 [some (.ref b), some (.ref x), some (.ref (x + 117)), some (.int (nI (6 * k)))] [] τ Q) : Ev Γ 600000 7302250 m_Law_law cells slots 1917 [some (.ref b), some (.ref x), some (.ref (x + 117)), some (.int (nI (6 * k)))] [] σ Q := by
  refine Ev.aload_n rfl rfl ?_
  refine Ev.aload_n rfl rfl ?_
  refine Ev.iload_n rfl rfl ?_
  refine Ev.iconst (v := 1) rfl (by decide) ?_
  refine Ev.iadd rfl ?_
  refine Ev.ialdSN (k := 6 * k + 1) rfl hA (nq_add (a := 6 * k) (b := 1) rfl rfl) ⟨by omega, by omega⟩ ?_
  refine Ev.aload_n rfl rfl ?_
  refine Ev.iload_n rfl rfl ?_
  refine Ev.iconst (v := 2) rfl (by decide) ?_
  refine Ev.iadd rfl ?_
  refine Ev.ialdSN (k := 6 * k + 2) rfl hA (nq_add (a := 6 * k) (b := 2) rfl rfl) ⟨by omega, by omega⟩ ?_
  obtain ⟨v, T1, I1, ⟨mc, ms, a1, a2, hC⟩, hM1⟩ := pr_toll (Γ := Γ) (x := x) (xs (6 * k + 1)) (xs (6 * k + 2)) σ T I h
  refine Ev.callV (as := [.int (xs (6 * k + 1)), .int (xs (6 * k + 2))]) (st := []) rfl rfl h.1.1 rfl rfl rfl rfl (Nat.le_of_ble_eq_true rfl) ⟨by omega, by omega⟩ hC (fun r τ q => ?_)
  obtain ⟨rfl, hMid⟩ := q
  obtain ⟨g, A, hMM, -⟩ := hMid.m
  change Ev Γ 600000 7302250 m_Law_law (cells + mc) (slots + ms) 1931 [some (.ref b), some (.ref x), some (.ref (x + 117)), some (.int (nI (6 * k)))] [.int v] τ Q
  refine Ev.aload_n rfl rfl ?_
  refine Ev.aload_n rfl rfl ?_
  refine Ev.iload_n rfl rfl ?_
  refine Ev.iconst (v := 1) rfl (by decide) ?_
  refine Ev.iadd rfl ?_
  refine Ev.ialdSN (k := 6 * k + 1) rfl hA (nq_add (a := 6 * k) (b := 1) rfl rfl) ⟨by omega, by omega⟩ ?_
  refine Ev.aload_n rfl rfl ?_
  refine Ev.iload_n rfl rfl ?_
  refine Ev.iconst (v := 2) rfl (by decide) ?_
  refine Ev.iadd rfl ?_
  refine Ev.ialdSN (k := 6 * k + 2) rfl hA (nq_add (a := 6 * k) (b := 2) rfl rfl) ⟨by omega, by omega⟩ ?_
  refine Ev.callV (mc := 0) (ms := 0) (as := [.int (xs (6 * k + 1)), .int (xs (6 * k + 2))]) (st := [.int v]) rfl rfl hMM.1 rfl rfl rfl rfl (Nat.le_of_ble_eq_true rfl) ⟨by omega, by omega⟩ (hM1 τ hMid) (fun r υ q => ?_)
  obtain ⟨rfl, hI1⟩ := q
  change Ev Γ 600000 7302250 m_Law_law (cells + mc) (slots + ms) 1945 [some (.ref b), some (.ref x), some (.ref (x + 117)), some (.int (nI (6 * k)))] [.int v, .int v] υ Q
  refine Ev.icmp_eq (tgt := 2095) rfl (by decide) (fun _ => ?_) (fun c => absurd rfl c)
  exact hnext υ T1 I1 mc ms a1 a2 hI1
/- busy -/
set_option maxRecDepth 16384 in
theorem law_40 (hA : (b, 0, L, xs) ∈ gA Γ) (hL : L ≤ 3072) (hk : 6 * k + 6 ≤ L) (hc : cells + 70 ≤ 600000) (hs : slots + 4300 ≤ 7302250) {σ : ex_S} {T : Tol} {I : Nat → Option Tol} (h : Inv σ x T I) (hnext : ∀ (τ : ex_S) (T1 : Tol) (I1 : Nat → Option Tol) (mc ms : Nat), mc ≤ 70 → ms ≤ 4300 → Inv τ x T1 I1 → Ev Γ 600000 7302250 m_Law_law (cells + mc) (slots + ms) 2095 [some (.ref b), some (.ref x), some (.ref (x + 117)), some (.int (nI (6 * k)))] [] τ Q) : Ev Γ 600000 7302250 m_Law_law cells slots 1950 [some (.ref b), some (.ref x), some (.ref (x + 117)), some (.int (nI (6 * k)))] [] σ Q := by
  refine Ev.aload_n rfl rfl ?_
  refine Ev.aload_n rfl rfl ?_
  refine Ev.iload_n rfl rfl ?_
  refine Ev.iconst (v := 1) rfl (by decide) ?_
  refine Ev.iadd rfl ?_
  refine Ev.ialdSN (k := 6 * k + 1) rfl hA (nq_add (a := 6 * k) (b := 1) rfl rfl) ⟨by omega, by omega⟩ ?_
  refine Ev.aload_n rfl rfl ?_
  refine Ev.iload_n rfl rfl ?_
  refine Ev.iconst (v := 2) rfl (by decide) ?_
  refine Ev.iadd rfl ?_
  refine Ev.ialdSN (k := 6 * k + 2) rfl hA (nq_add (a := 6 * k) (b := 2) rfl rfl) ⟨by omega, by omega⟩ ?_
  refine Ev.aload_n rfl rfl ?_
  refine Ev.iload_n rfl rfl ?_
  refine Ev.iconst (v := 3) rfl (by decide) ?_
  refine Ev.iadd rfl ?_
  refine Ev.ialdSN (k := 6 * k + 3) rfl hA (nq_add (a := 6 * k) (b := 3) rfl rfl) ⟨by omega, by omega⟩ ?_
  obtain ⟨v, T1, I1, ⟨mc, ms, a1, a2, hC⟩, hM1⟩ := pr_busy (Γ := Γ) (x := x) (xs (6 * k + 1)) (xs (6 * k + 2)) (xs (6 * k + 3)) σ T I h
  refine Ev.callV (as := [.int (xs (6 * k + 1)), .int (xs (6 * k + 2)), .int (xs (6 * k + 3))]) (st := []) rfl rfl h.1.1 rfl rfl rfl rfl (Nat.le_of_ble_eq_true rfl) ⟨by omega, by omega⟩ hC (fun r τ q => ?_)
  obtain ⟨rfl, hMid⟩ := q
  obtain ⟨g, A, hMM, -⟩ := hMid.m
  change Ev Γ 600000 7302250 m_Law_law (cells + mc) (slots + ms) 1969 [some (.ref b), some (.ref x), some (.ref (x + 117)), some (.int (nI (6 * k)))] [.int v] τ Q
  refine Ev.aload_n rfl rfl ?_
  refine Ev.aload_n rfl rfl ?_
  refine Ev.iload_n rfl rfl ?_
  refine Ev.iconst (v := 1) rfl (by decide) ?_
  refine Ev.iadd rfl ?_
  refine Ev.ialdSN (k := 6 * k + 1) rfl hA (nq_add (a := 6 * k) (b := 1) rfl rfl) ⟨by omega, by omega⟩ ?_
  refine Ev.aload_n rfl rfl ?_
  refine Ev.iload_n rfl rfl ?_
  refine Ev.iconst (v := 2) rfl (by decide) ?_
  refine Ev.iadd rfl ?_
  refine Ev.ialdSN (k := 6 * k + 2) rfl hA (nq_add (a := 6 * k) (b := 2) rfl rfl) ⟨by omega, by omega⟩ ?_
  refine Ev.aload_n rfl rfl ?_
  refine Ev.iload_n rfl rfl ?_
  refine Ev.iconst (v := 3) rfl (by decide) ?_
  refine Ev.iadd rfl ?_
  refine Ev.ialdSN (k := 6 * k + 3) rfl hA (nq_add (a := 6 * k) (b := 3) rfl rfl) ⟨by omega, by omega⟩ ?_
  refine Ev.callV (mc := 0) (ms := 0) (as := [.int (xs (6 * k + 1)), .int (xs (6 * k + 2)), .int (xs (6 * k + 3))]) (st := [.int v]) rfl rfl hMM.1 rfl rfl rfl rfl (Nat.le_of_ble_eq_true rfl) ⟨by omega, by omega⟩ (hM1 τ hMid) (fun r υ q => ?_)
  obtain ⟨rfl, hI1⟩ := q
  change Ev Γ 600000 7302250 m_Law_law (cells + mc) (slots + ms) 1988 [some (.ref b), some (.ref x), some (.ref (x + 117)), some (.int (nI (6 * k)))] [.int v, .int v] υ Q
  refine Ev.icmp_eq (tgt := 2095) rfl (by decide) (fun _ => ?_) (fun c => absurd rfl c)
  exact hnext υ T1 I1 mc ms a1 a2 hI1
/- pass -/
set_option maxRecDepth 16384 in
theorem law_41 (hA : (b, 0, L, xs) ∈ gA Γ) (hL : L ≤ 3072) (hk : 6 * k + 6 ≤ L) (hc : cells + 70 ≤ 600000) (hs : slots + 4300 ≤ 7302250) {σ : ex_S} {T : Tol} {I : Nat → Option Tol} (h : Inv σ x T I) (hnext : ∀ (τ : ex_S) (T1 : Tol) (I1 : Nat → Option Tol) (mc ms : Nat), mc ≤ 70 → ms ≤ 4300 → Inv τ x T1 I1 → Ev Γ 600000 7302250 m_Law_law (cells + mc) (slots + ms) 2095 [some (.ref b), some (.ref x), some (.ref (x + 117)), some (.int (nI (6 * k)))] [] τ Q) : Ev Γ 600000 7302250 m_Law_law cells slots 1993 [some (.ref b), some (.ref x), some (.ref (x + 117)), some (.int (nI (6 * k)))] [] σ Q := by
  refine Ev.aload_n rfl rfl ?_
  refine Ev.aload_n rfl rfl ?_
  refine Ev.iload_n rfl rfl ?_
  refine Ev.iconst (v := 1) rfl (by decide) ?_
  refine Ev.iadd rfl ?_
  refine Ev.ialdSN (k := 6 * k + 1) rfl hA (nq_add (a := 6 * k) (b := 1) rfl rfl) ⟨by omega, by omega⟩ ?_
  refine Ev.aload_n rfl rfl ?_
  refine Ev.iload_n rfl rfl ?_
  refine Ev.iconst (v := 2) rfl (by decide) ?_
  refine Ev.iadd rfl ?_
  refine Ev.ialdSN (k := 6 * k + 2) rfl hA (nq_add (a := 6 * k) (b := 2) rfl rfl) ⟨by omega, by omega⟩ ?_
  obtain ⟨v, T1, I1, ⟨mc, ms, a1, a2, hC⟩, hM1⟩ := pr_pass (Γ := Γ) (x := x) (xs (6 * k + 1)) (xs (6 * k + 2)) σ T I h
  refine Ev.callV (as := [.int (xs (6 * k + 1)), .int (xs (6 * k + 2))]) (st := []) rfl rfl h.1.1 rfl rfl rfl rfl (Nat.le_of_ble_eq_true rfl) ⟨by omega, by omega⟩ hC (fun r τ q => ?_)
  obtain ⟨rfl, hMid⟩ := q
  obtain ⟨g, A, hMM, -⟩ := hMid.m
  change Ev Γ 600000 7302250 m_Law_law (cells + mc) (slots + ms) 2007 [some (.ref b), some (.ref x), some (.ref (x + 117)), some (.int (nI (6 * k)))] [.int v] τ Q
  refine Ev.aload_n rfl rfl ?_
  refine Ev.aload_n rfl rfl ?_
  refine Ev.iload_n rfl rfl ?_
  refine Ev.iconst (v := 1) rfl (by decide) ?_
  refine Ev.iadd rfl ?_
  refine Ev.ialdSN (k := 6 * k + 1) rfl hA (nq_add (a := 6 * k) (b := 1) rfl rfl) ⟨by omega, by omega⟩ ?_
  refine Ev.aload_n rfl rfl ?_
  refine Ev.iload_n rfl rfl ?_
  refine Ev.iconst (v := 2) rfl (by decide) ?_
  refine Ev.iadd rfl ?_
  refine Ev.ialdSN (k := 6 * k + 2) rfl hA (nq_add (a := 6 * k) (b := 2) rfl rfl) ⟨by omega, by omega⟩ ?_
  refine Ev.callV (mc := 0) (ms := 0) (as := [.int (xs (6 * k + 1)), .int (xs (6 * k + 2))]) (st := [.int v]) rfl rfl hMM.1 rfl rfl rfl rfl (Nat.le_of_ble_eq_true rfl) ⟨by omega, by omega⟩ (hM1 τ hMid) (fun r υ q => ?_)
  obtain ⟨rfl, hI1⟩ := q
  change Ev Γ 600000 7302250 m_Law_law (cells + mc) (slots + ms) 2021 [some (.ref b), some (.ref x), some (.ref (x + 117)), some (.int (nI (6 * k)))] [.int v, .int v] υ Q
  refine Ev.icmp_eq (tgt := 2095) rfl (by decide) (fun _ => ?_) (fun c => absurd rfl c)
  exact hnext υ T1 I1 mc ms a1 a2 hI1
/- count -/
set_option maxRecDepth 16384 in
theorem law_42 (hA : (b, 0, L, xs) ∈ gA Γ) (hL : L ≤ 3072) (hk : 6 * k + 6 ≤ L) (hc : cells + 70 ≤ 600000) (hs : slots + 4300 ≤ 7302250) {σ : ex_S} {T : Tol} {I : Nat → Option Tol} (h : Inv σ x T I) (hnext : ∀ (τ : ex_S) (T1 : Tol) (I1 : Nat → Option Tol) (mc ms : Nat), mc ≤ 70 → ms ≤ 4300 → Inv τ x T1 I1 → Ev Γ 600000 7302250 m_Law_law (cells + mc) (slots + ms) 2095 [some (.ref b), some (.ref x), some (.ref (x + 117)), some (.int (nI (6 * k)))] [] τ Q) : Ev Γ 600000 7302250 m_Law_law cells slots 2026 [some (.ref b), some (.ref x), some (.ref (x + 117)), some (.int (nI (6 * k)))] [] σ Q := by
  refine Ev.aload_n rfl rfl ?_
  refine Ev.aload_n rfl rfl ?_
  refine Ev.iload_n rfl rfl ?_
  refine Ev.iconst (v := 1) rfl (by decide) ?_
  refine Ev.iadd rfl ?_
  refine Ev.ialdSN (k := 6 * k + 1) rfl hA (nq_add (a := 6 * k) (b := 1) rfl rfl) ⟨by omega, by omega⟩ ?_
  obtain ⟨v, T1, I1, ⟨mc, ms, a1, a2, hC⟩, hM1⟩ := pr_count (Γ := Γ) (x := x) (xs (6 * k + 1)) σ T I h
  refine Ev.callV (as := [.int (xs (6 * k + 1))]) (st := []) rfl rfl h.1.1 rfl rfl rfl rfl (Nat.le_of_ble_eq_true rfl) ⟨by omega, by omega⟩ hC (fun r τ q => ?_)
  obtain ⟨rfl, hMid⟩ := q
  obtain ⟨g, A, hMM, -⟩ := hMid.m
  change Ev Γ 600000 7302250 m_Law_law (cells + mc) (slots + ms) 2035 [some (.ref b), some (.ref x), some (.ref (x + 117)), some (.int (nI (6 * k)))] [.int v] τ Q
  refine Ev.aload_n rfl rfl ?_
  refine Ev.aload_n rfl rfl ?_
  refine Ev.iload_n rfl rfl ?_
  refine Ev.iconst (v := 1) rfl (by decide) ?_
  refine Ev.iadd rfl ?_
  refine Ev.ialdSN (k := 6 * k + 1) rfl hA (nq_add (a := 6 * k) (b := 1) rfl rfl) ⟨by omega, by omega⟩ ?_
  refine Ev.callV (mc := 0) (ms := 0) (as := [.int (xs (6 * k + 1))]) (st := [.int v]) rfl rfl hMM.1 rfl rfl rfl rfl (Nat.le_of_ble_eq_true rfl) ⟨by omega, by omega⟩ (hM1 τ hMid) (fun r υ q => ?_)
  obtain ⟨rfl, hI1⟩ := q
  change Ev Γ 600000 7302250 m_Law_law (cells + mc) (slots + ms) 2044 [some (.ref b), some (.ref x), some (.ref (x + 117)), some (.int (nI (6 * k)))] [.int v, .int v] υ Q
  refine Ev.icmp_eq (tgt := 2095) rfl (by decide) (fun _ => ?_) (fun c => absurd rfl c)
  exact hnext υ T1 I1 mc ms a1 a2 hI1
/- image -/
set_option maxRecDepth 16384 in
theorem law_43 (hA : (b, 0, L, xs) ∈ gA Γ) (hL : L ≤ 3072) (hk : 6 * k + 6 ≤ L) (hc : cells + 70 ≤ 600000) (hs : slots + 4300 ≤ 7302250) {σ : ex_S} {T : Tol} {I : Nat → Option Tol} (h : Inv σ x T I) (hnext : ∀ (τ : ex_S) (T1 : Tol) (I1 : Nat → Option Tol) (mc ms : Nat), mc ≤ 70 → ms ≤ 4300 → Inv τ x T1 I1 → Ev Γ 600000 7302250 m_Law_law (cells + mc) (slots + ms) 2095 [some (.ref b), some (.ref x), some (.ref (x + 117)), some (.int (nI (6 * k)))] [] τ Q) : Ev Γ 600000 7302250 m_Law_law cells slots 2049 [some (.ref b), some (.ref x), some (.ref (x + 117)), some (.int (nI (6 * k)))] [] σ Q := by
  refine Ev.aload_n rfl rfl ?_
  refine Ev.aload_n rfl rfl ?_
  refine Ev.iload_n rfl rfl ?_
  refine Ev.iconst (v := 1) rfl (by decide) ?_
  refine Ev.iadd rfl ?_
  refine Ev.ialdSN (k := 6 * k + 1) rfl hA (nq_add (a := 6 * k) (b := 1) rfl rfl) ⟨by omega, by omega⟩ ?_
  obtain ⟨v, T1, I1, ⟨mc, ms, a1, a2, hC⟩, hM1⟩ := pr_image (Γ := Γ) (x := x) (xs (6 * k + 1)) σ T I h
  refine Ev.callV (as := [.int (xs (6 * k + 1))]) (st := []) rfl rfl h.1.1 rfl rfl rfl rfl (Nat.le_of_ble_eq_true rfl) ⟨by omega, by omega⟩ hC (fun r τ q => ?_)
  obtain ⟨rfl, hMid⟩ := q
  obtain ⟨g, A, hMM, -⟩ := hMid.m
  change Ev Γ 600000 7302250 m_Law_law (cells + mc) (slots + ms) 2058 [some (.ref b), some (.ref x), some (.ref (x + 117)), some (.int (nI (6 * k)))] [.int v] τ Q
  refine Ev.aload_n rfl rfl ?_
  refine Ev.aload_n rfl rfl ?_
  refine Ev.iload_n rfl rfl ?_
  refine Ev.iconst (v := 1) rfl (by decide) ?_
  refine Ev.iadd rfl ?_
  refine Ev.ialdSN (k := 6 * k + 1) rfl hA (nq_add (a := 6 * k) (b := 1) rfl rfl) ⟨by omega, by omega⟩ ?_
  refine Ev.callV (mc := 0) (ms := 0) (as := [.int (xs (6 * k + 1))]) (st := [.int v]) rfl rfl hMM.1 rfl rfl rfl rfl (Nat.le_of_ble_eq_true rfl) ⟨by omega, by omega⟩ (hM1 τ hMid) (fun r υ q => ?_)
  obtain ⟨rfl, hI1⟩ := q
  change Ev Γ 600000 7302250 m_Law_law (cells + mc) (slots + ms) 2067 [some (.ref b), some (.ref x), some (.ref (x + 117)), some (.int (nI (6 * k)))] [.int v, .int v] υ Q
  refine Ev.icmp_eq (tgt := 2095) rfl (by decide) (fun _ => ?_) (fun c => absurd rfl c)
  exact hnext υ T1 I1 mc ms a1 a2 hI1
/- again -/
set_option maxRecDepth 16384 in
theorem law_44 (hA : (b, 0, L, xs) ∈ gA Γ) (hL : L ≤ 3072) (hk : 6 * k + 6 ≤ L) (hc : cells + 70 ≤ 600000) (hs : slots + 4300 ≤ 7302250) {σ : ex_S} {T : Tol} {I : Nat → Option Tol} (h : Inv σ x T I) (hnext : ∀ (τ : ex_S) (T1 : Tol) (I1 : Nat → Option Tol) (mc ms : Nat), mc ≤ 70 → ms ≤ 4300 → Inv τ x T1 I1 → Ev Γ 600000 7302250 m_Law_law (cells + mc) (slots + ms) 2095 [some (.ref b), some (.ref x), some (.ref (x + 117)), some (.int (nI (6 * k)))] [] τ Q) : Ev Γ 600000 7302250 m_Law_law cells slots 2072 [some (.ref b), some (.ref x), some (.ref (x + 117)), some (.int (nI (6 * k)))] [] σ Q := by
  refine Ev.aload_n rfl rfl ?_
  refine Ev.aload_n rfl rfl ?_
  refine Ev.iload_n rfl rfl ?_
  refine Ev.iconst (v := 1) rfl (by decide) ?_
  refine Ev.iadd rfl ?_
  refine Ev.ialdSN (k := 6 * k + 1) rfl hA (nq_add (a := 6 * k) (b := 1) rfl rfl) ⟨by omega, by omega⟩ ?_
  obtain ⟨v, T1, I1, ⟨mc, ms, a1, a2, hC⟩, hM1⟩ := pr_again (Γ := Γ) (x := x) (xs (6 * k + 1)) σ T I h
  refine Ev.callV (as := [.int (xs (6 * k + 1))]) (st := []) rfl rfl h.1.1 rfl rfl rfl rfl (Nat.le_of_ble_eq_true rfl) ⟨by omega, by omega⟩ hC (fun r τ q => ?_)
  obtain ⟨rfl, hMid⟩ := q
  obtain ⟨g, A, hMM, -⟩ := hMid.m
  change Ev Γ 600000 7302250 m_Law_law (cells + mc) (slots + ms) 2081 [some (.ref b), some (.ref x), some (.ref (x + 117)), some (.int (nI (6 * k)))] [.int v] τ Q
  refine Ev.aload_n rfl rfl ?_
  refine Ev.aload_n rfl rfl ?_
  refine Ev.iload_n rfl rfl ?_
  refine Ev.iconst (v := 1) rfl (by decide) ?_
  refine Ev.iadd rfl ?_
  refine Ev.ialdSN (k := 6 * k + 1) rfl hA (nq_add (a := 6 * k) (b := 1) rfl rfl) ⟨by omega, by omega⟩ ?_
  refine Ev.callV (mc := 0) (ms := 0) (as := [.int (xs (6 * k + 1))]) (st := [.int v]) rfl rfl hMM.1 rfl rfl rfl rfl (Nat.le_of_ble_eq_true rfl) ⟨by omega, by omega⟩ (hM1 τ hMid) (fun r υ q => ?_)
  obtain ⟨rfl, hI1⟩ := q
  change Ev Γ 600000 7302250 m_Law_law (cells + mc) (slots + ms) 2090 [some (.ref b), some (.ref x), some (.ref (x + 117)), some (.int (nI (6 * k)))] [.int v, .int v] υ Q
  refine Ev.icmp_eq (tgt := 2095) rfl (by decide) (fun _ => ?_) (fun c => absurd rfl c)
  exact hnext υ T1 I1 mc ms a1 a2 hI1
end
end
