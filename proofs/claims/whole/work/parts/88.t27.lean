/-! The law: its cases 15 to 29. -/
noncomputable section
section
variable {Γ : ex_G} {b L x k cells slots : Nat} {xs : Nat → Int32} {Q : Option Value → ex_S → Prop}
/- seats -/
set_option maxRecDepth 16384 in
theorem law_15 (hA : (b, 0, L, xs) ∈ gA Γ) (hL : L ≤ 3072) (hk : 6 * k + 6 ≤ L) (hc : cells + 70 ≤ 600000) (hs : slots + 4300 ≤ 7302250) {σ : ex_S} {T : Tol} {I : Nat → Option Tol} (h : Inv σ x T I) (hnext : ∀ (τ : ex_S) (T1 : Tol) (I1 : Nat → Option Tol) (mc ms : Nat), mc ≤ 70 → ms ≤ 4300 → Inv τ x T1 I1 → Ev Γ 600000 7302250 m_Law_law (cells + mc) (slots + ms) 2095 [some (.ref b), some (.ref x), some (.ref (x + 117)), some (.int (nI (6 * k)))] [] τ Q) : Ev Γ 600000 7302250 m_Law_law cells slots 849 [some (.ref b), some (.ref x), some (.ref (x + 117)), some (.int (nI (6 * k)))] [] σ Q := by
  refine Ev.aload_n rfl rfl ?_
  refine Ev.aload_n rfl rfl ?_
  refine Ev.iload_n rfl rfl ?_
  refine Ev.iconst (v := 1) rfl (by decide) ?_
  refine Ev.iadd rfl ?_
  refine Ev.ialdSN (k := 6 * k + 1) rfl hA (nq_add (a := 6 * k) (b := 1) rfl rfl) ⟨by omega, by omega⟩ ?_
  refine Ev.aload_n rfl rfl ?_
  refine Ev.iload_n rfl rfl ?_
  refine Ev.iconst (v := 2) rfl (by decide) ?_
  refine Ev.iadd rfl ?_
  refine Ev.ialdSN (k := 6 * k + 2) rfl hA (nq_add (a := 6 * k) (b := 2) rfl rfl) ⟨by omega, by omega⟩ ?_
  refine Ev.aload_n rfl rfl ?_
  refine Ev.iload_n rfl rfl ?_
  refine Ev.iconst (v := 3) rfl (by decide) ?_
  refine Ev.iadd rfl ?_
  refine Ev.ialdSN (k := 6 * k + 3) rfl hA (nq_add (a := 6 * k) (b := 3) rfl rfl) ⟨by omega, by omega⟩ ?_
  obtain ⟨v, T1, I1, ⟨mc, ms, a1, a2, hC⟩, hM1⟩ := pr_seats (Γ := Γ) (x := x) (xs (6 * k + 1)) (xs (6 * k + 2)) (xs (6 * k + 3)) σ T I h
  refine Ev.callV (as := [.int (xs (6 * k + 1)), .int (xs (6 * k + 2)), .int (xs (6 * k + 3))]) (st := []) rfl rfl h.1.1 rfl rfl rfl rfl (Nat.le_of_ble_eq_true rfl) ⟨by omega, by omega⟩ hC (fun r τ q => ?_)
  obtain ⟨rfl, hMid⟩ := q
  obtain ⟨g, A, hMM, -⟩ := hMid.m
  change Ev Γ 600000 7302250 m_Law_law (cells + mc) (slots + ms) 868 [some (.ref b), some (.ref x), some (.ref (x + 117)), some (.int (nI (6 * k)))] [.int v] τ Q
  refine Ev.aload_n rfl rfl ?_
  refine Ev.aload_n rfl rfl ?_
  refine Ev.iload_n rfl rfl ?_
  refine Ev.iconst (v := 1) rfl (by decide) ?_
  refine Ev.iadd rfl ?_
  refine Ev.ialdSN (k := 6 * k + 1) rfl hA (nq_add (a := 6 * k) (b := 1) rfl rfl) ⟨by omega, by omega⟩ ?_
  refine Ev.aload_n rfl rfl ?_
  refine Ev.iload_n rfl rfl ?_
  refine Ev.iconst (v := 2) rfl (by decide) ?_
  refine Ev.iadd rfl ?_
  refine Ev.ialdSN (k := 6 * k + 2) rfl hA (nq_add (a := 6 * k) (b := 2) rfl rfl) ⟨by omega, by omega⟩ ?_
  refine Ev.aload_n rfl rfl ?_
  refine Ev.iload_n rfl rfl ?_
  refine Ev.iconst (v := 3) rfl (by decide) ?_
  refine Ev.iadd rfl ?_
  refine Ev.ialdSN (k := 6 * k + 3) rfl hA (nq_add (a := 6 * k) (b := 3) rfl rfl) ⟨by omega, by omega⟩ ?_
  refine Ev.callV (mc := 0) (ms := 0) (as := [.int (xs (6 * k + 1)), .int (xs (6 * k + 2)), .int (xs (6 * k + 3))]) (st := [.int v]) rfl rfl hMM.1 rfl rfl rfl rfl (Nat.le_of_ble_eq_true rfl) ⟨by omega, by omega⟩ (hM1 τ hMid) (fun r υ q => ?_)
  obtain ⟨rfl, hI1⟩ := q
  change Ev Γ 600000 7302250 m_Law_law (cells + mc) (slots + ms) 887 [some (.ref b), some (.ref x), some (.ref (x + 117)), some (.int (nI (6 * k)))] [.int v, .int v] υ Q
  refine Ev.icmp_eq (tgt := 2095) rfl (by decide) (fun _ => ?_) (fun c => absurd rfl c)
  exact hnext υ T1 I1 mc ms a1 a2 hI1
/- fewest -/
set_option maxRecDepth 16384 in
theorem law_16 (hA : (b, 0, L, xs) ∈ gA Γ) (hL : L ≤ 3072) (hk : 6 * k + 6 ≤ L) (hc : cells + 70 ≤ 600000) (hs : slots + 4300 ≤ 7302250) {σ : ex_S} {T : Tol} {I : Nat → Option Tol} (h : Inv σ x T I) (hnext : ∀ (τ : ex_S) (T1 : Tol) (I1 : Nat → Option Tol) (mc ms : Nat), mc ≤ 70 → ms ≤ 4300 → Inv τ x T1 I1 → Ev Γ 600000 7302250 m_Law_law (cells + mc) (slots + ms) 2095 [some (.ref b), some (.ref x), some (.ref (x + 117)), some (.int (nI (6 * k)))] [] τ Q) : Ev Γ 600000 7302250 m_Law_law cells slots 892 [some (.ref b), some (.ref x), some (.ref (x + 117)), some (.int (nI (6 * k)))] [] σ Q := by
  refine Ev.aload_n rfl rfl ?_
  refine Ev.aload_n rfl rfl ?_
  refine Ev.iload_n rfl rfl ?_
  refine Ev.iconst (v := 1) rfl (by decide) ?_
  refine Ev.iadd rfl ?_
  refine Ev.ialdSN (k := 6 * k + 1) rfl hA (nq_add (a := 6 * k) (b := 1) rfl rfl) ⟨by omega, by omega⟩ ?_
  refine Ev.aload_n rfl rfl ?_
  refine Ev.iload_n rfl rfl ?_
  refine Ev.iconst (v := 2) rfl (by decide) ?_
  refine Ev.iadd rfl ?_
  refine Ev.ialdSN (k := 6 * k + 2) rfl hA (nq_add (a := 6 * k) (b := 2) rfl rfl) ⟨by omega, by omega⟩ ?_
  obtain ⟨v, T1, I1, ⟨mc, ms, a1, a2, hC⟩, hM1⟩ := pr_fewest (Γ := Γ) (x := x) (xs (6 * k + 1)) (xs (6 * k + 2)) σ T I h
  refine Ev.callV (as := [.int (xs (6 * k + 1)), .int (xs (6 * k + 2))]) (st := []) rfl rfl h.1.1 rfl rfl rfl rfl (Nat.le_of_ble_eq_true rfl) ⟨by omega, by omega⟩ hC (fun r τ q => ?_)
  obtain ⟨rfl, hMid⟩ := q
  obtain ⟨g, A, hMM, -⟩ := hMid.m
  change Ev Γ 600000 7302250 m_Law_law (cells + mc) (slots + ms) 906 [some (.ref b), some (.ref x), some (.ref (x + 117)), some (.int (nI (6 * k)))] [.int v] τ Q
  refine Ev.aload_n rfl rfl ?_
  refine Ev.aload_n rfl rfl ?_
  refine Ev.iload_n rfl rfl ?_
  refine Ev.iconst (v := 1) rfl (by decide) ?_
  refine Ev.iadd rfl ?_
  refine Ev.ialdSN (k := 6 * k + 1) rfl hA (nq_add (a := 6 * k) (b := 1) rfl rfl) ⟨by omega, by omega⟩ ?_
  refine Ev.aload_n rfl rfl ?_
  refine Ev.iload_n rfl rfl ?_
  refine Ev.iconst (v := 2) rfl (by decide) ?_
  refine Ev.iadd rfl ?_
  refine Ev.ialdSN (k := 6 * k + 2) rfl hA (nq_add (a := 6 * k) (b := 2) rfl rfl) ⟨by omega, by omega⟩ ?_
  refine Ev.callV (mc := 0) (ms := 0) (as := [.int (xs (6 * k + 1)), .int (xs (6 * k + 2))]) (st := [.int v]) rfl rfl hMM.1 rfl rfl rfl rfl (Nat.le_of_ble_eq_true rfl) ⟨by omega, by omega⟩ (hM1 τ hMid) (fun r υ q => ?_)
  obtain ⟨rfl, hI1⟩ := q
  change Ev Γ 600000 7302250 m_Law_law (cells + mc) (slots + ms) 920 [some (.ref b), some (.ref x), some (.ref (x + 117)), some (.int (nI (6 * k)))] [.int v, .int v] υ Q
  refine Ev.icmp_eq (tgt := 2095) rfl (by decide) (fun _ => ?_) (fun c => absurd rfl c)
  exact hnext υ T1 I1 mc ms a1 a2 hI1
/- test -/
set_option maxRecDepth 16384 in
theorem law_17 (hA : (b, 0, L, xs) ∈ gA Γ) (hL : L ≤ 3072) (hk : 6 * k + 6 ≤ L) (hc : cells + 70 ≤ 600000) (hs : slots + 4300 ≤ 7302250) {σ : ex_S} {T : Tol} {I : Nat → Option Tol} (h : Inv σ x T I) (hnext : ∀ (τ : ex_S) (T1 : Tol) (I1 : Nat → Option Tol) (mc ms : Nat), mc ≤ 70 → ms ≤ 4300 → Inv τ x T1 I1 → Ev Γ 600000 7302250 m_Law_law (cells + mc) (slots + ms) 2095 [some (.ref b), some (.ref x), some (.ref (x + 117)), some (.int (nI (6 * k)))] [] τ Q) : Ev Γ 600000 7302250 m_Law_law cells slots 925 [some (.ref b), some (.ref x), some (.ref (x + 117)), some (.int (nI (6 * k)))] [] σ Q := by
  refine Ev.aload_n rfl rfl ?_
  refine Ev.aload_n rfl rfl ?_
  refine Ev.iload_n rfl rfl ?_
  refine Ev.iconst (v := 1) rfl (by decide) ?_
  refine Ev.iadd rfl ?_
  refine Ev.ialdSN (k := 6 * k + 1) rfl hA (nq_add (a := 6 * k) (b := 1) rfl rfl) ⟨by omega, by omega⟩ ?_
  refine Ev.aload_n rfl rfl ?_
  refine Ev.iload_n rfl rfl ?_
  refine Ev.iconst (v := 2) rfl (by decide) ?_
  refine Ev.iadd rfl ?_
  refine Ev.ialdSN (k := 6 * k + 2) rfl hA (nq_add (a := 6 * k) (b := 2) rfl rfl) ⟨by omega, by omega⟩ ?_
  refine Ev.aload_n rfl rfl ?_
  refine Ev.iload_n rfl rfl ?_
  refine Ev.iconst (v := 3) rfl (by decide) ?_
  refine Ev.iadd rfl ?_
  refine Ev.ialdSN (k := 6 * k + 3) rfl hA (nq_add (a := 6 * k) (b := 3) rfl rfl) ⟨by omega, by omega⟩ ?_
  obtain ⟨v, T1, I1, ⟨mc, ms, a1, a2, hC⟩, hM1⟩ := pr_test (Γ := Γ) (x := x) (xs (6 * k + 1)) (xs (6 * k + 2)) (xs (6 * k + 3)) σ T I h
  refine Ev.callV (as := [.int (xs (6 * k + 1)), .int (xs (6 * k + 2)), .int (xs (6 * k + 3))]) (st := []) rfl rfl h.1.1 rfl rfl rfl rfl (Nat.le_of_ble_eq_true rfl) ⟨by omega, by omega⟩ hC (fun r τ q => ?_)
  obtain ⟨rfl, hMid⟩ := q
  obtain ⟨g, A, hMM, -⟩ := hMid.m
  change Ev Γ 600000 7302250 m_Law_law (cells + mc) (slots + ms) 944 [some (.ref b), some (.ref x), some (.ref (x + 117)), some (.int (nI (6 * k)))] [.int v] τ Q
  refine Ev.aload_n rfl rfl ?_
  refine Ev.aload_n rfl rfl ?_
  refine Ev.iload_n rfl rfl ?_
  refine Ev.iconst (v := 1) rfl (by decide) ?_
  refine Ev.iadd rfl ?_
  refine Ev.ialdSN (k := 6 * k + 1) rfl hA (nq_add (a := 6 * k) (b := 1) rfl rfl) ⟨by omega, by omega⟩ ?_
  refine Ev.aload_n rfl rfl ?_
  refine Ev.iload_n rfl rfl ?_
  refine Ev.iconst (v := 2) rfl (by decide) ?_
  refine Ev.iadd rfl ?_
  refine Ev.ialdSN (k := 6 * k + 2) rfl hA (nq_add (a := 6 * k) (b := 2) rfl rfl) ⟨by omega, by omega⟩ ?_
  refine Ev.aload_n rfl rfl ?_
  refine Ev.iload_n rfl rfl ?_
  refine Ev.iconst (v := 3) rfl (by decide) ?_
  refine Ev.iadd rfl ?_
  refine Ev.ialdSN (k := 6 * k + 3) rfl hA (nq_add (a := 6 * k) (b := 3) rfl rfl) ⟨by omega, by omega⟩ ?_
  refine Ev.callV (mc := 0) (ms := 0) (as := [.int (xs (6 * k + 1)), .int (xs (6 * k + 2)), .int (xs (6 * k + 3))]) (st := [.int v]) rfl rfl hMM.1 rfl rfl rfl rfl (Nat.le_of_ble_eq_true rfl) ⟨by omega, by omega⟩ (hM1 τ hMid) (fun r υ q => ?_)
  obtain ⟨rfl, hI1⟩ := q
  change Ev Γ 600000 7302250 m_Law_law (cells + mc) (slots + ms) 963 [some (.ref b), some (.ref x), some (.ref (x + 117)), some (.int (nI (6 * k)))] [.int v, .int v] υ Q
  refine Ev.icmp_eq (tgt := 2095) rfl (by decide) (fun _ => ?_) (fun c => absurd rfl c)
  exact hnext υ T1 I1 mc ms a1 a2 hI1
/- whom -/
set_option maxRecDepth 16384 in
theorem law_18 (hA : (b, 0, L, xs) ∈ gA Γ) (hL : L ≤ 3072) (hk : 6 * k + 6 ≤ L) (hc : cells + 70 ≤ 600000) (hs : slots + 4300 ≤ 7302250) {σ : ex_S} {T : Tol} {I : Nat → Option Tol} (h : Inv σ x T I) (hnext : ∀ (τ : ex_S) (T1 : Tol) (I1 : Nat → Option Tol) (mc ms : Nat), mc ≤ 70 → ms ≤ 4300 → Inv τ x T1 I1 → Ev Γ 600000 7302250 m_Law_law (cells + mc) (slots + ms) 2095 [some (.ref b), some (.ref x), some (.ref (x + 117)), some (.int (nI (6 * k)))] [] τ Q) : Ev Γ 600000 7302250 m_Law_law cells slots 968 [some (.ref b), some (.ref x), some (.ref (x + 117)), some (.int (nI (6 * k)))] [] σ Q := by
  refine Ev.aload_n rfl rfl ?_
  refine Ev.aload_n rfl rfl ?_
  refine Ev.iload_n rfl rfl ?_
  refine Ev.iconst (v := 1) rfl (by decide) ?_
  refine Ev.iadd rfl ?_
  refine Ev.ialdSN (k := 6 * k + 1) rfl hA (nq_add (a := 6 * k) (b := 1) rfl rfl) ⟨by omega, by omega⟩ ?_
  refine Ev.aload_n rfl rfl ?_
  refine Ev.iload_n rfl rfl ?_
  refine Ev.iconst (v := 2) rfl (by decide) ?_
  refine Ev.iadd rfl ?_
  refine Ev.ialdSN (k := 6 * k + 2) rfl hA (nq_add (a := 6 * k) (b := 2) rfl rfl) ⟨by omega, by omega⟩ ?_
  obtain ⟨v, T1, I1, ⟨mc, ms, a1, a2, hC⟩, hM1⟩ := pr_whom (Γ := Γ) (x := x) (xs (6 * k + 1)) (xs (6 * k + 2)) σ T I h
  refine Ev.callV (as := [.int (xs (6 * k + 1)), .int (xs (6 * k + 2))]) (st := []) rfl rfl h.1.1 rfl rfl rfl rfl (Nat.le_of_ble_eq_true rfl) ⟨by omega, by omega⟩ hC (fun r τ q => ?_)
  obtain ⟨rfl, hMid⟩ := q
  obtain ⟨g, A, hMM, -⟩ := hMid.m
  change Ev Γ 600000 7302250 m_Law_law (cells + mc) (slots + ms) 982 [some (.ref b), some (.ref x), some (.ref (x + 117)), some (.int (nI (6 * k)))] [.int v] τ Q
  refine Ev.aload_n rfl rfl ?_
  refine Ev.aload_n rfl rfl ?_
  refine Ev.iload_n rfl rfl ?_
  refine Ev.iconst (v := 1) rfl (by decide) ?_
  refine Ev.iadd rfl ?_
  refine Ev.ialdSN (k := 6 * k + 1) rfl hA (nq_add (a := 6 * k) (b := 1) rfl rfl) ⟨by omega, by omega⟩ ?_
  refine Ev.aload_n rfl rfl ?_
  refine Ev.iload_n rfl rfl ?_
  refine Ev.iconst (v := 2) rfl (by decide) ?_
  refine Ev.iadd rfl ?_
  refine Ev.ialdSN (k := 6 * k + 2) rfl hA (nq_add (a := 6 * k) (b := 2) rfl rfl) ⟨by omega, by omega⟩ ?_
  refine Ev.callV (mc := 0) (ms := 0) (as := [.int (xs (6 * k + 1)), .int (xs (6 * k + 2))]) (st := [.int v]) rfl rfl hMM.1 rfl rfl rfl rfl (Nat.le_of_ble_eq_true rfl) ⟨by omega, by omega⟩ (hM1 τ hMid) (fun r υ q => ?_)
  obtain ⟨rfl, hI1⟩ := q
  change Ev Γ 600000 7302250 m_Law_law (cells + mc) (slots + ms) 996 [some (.ref b), some (.ref x), some (.ref (x + 117)), some (.int (nI (6 * k)))] [.int v, .int v] υ Q
  refine Ev.icmp_eq (tgt := 2095) rfl (by decide) (fun _ => ?_) (fun c => absurd rfl c)
  exact hnext υ T1 I1 mc ms a1 a2 hI1
/- move -/
set_option maxRecDepth 16384 in
theorem law_19 (hA : (b, 0, L, xs) ∈ gA Γ) (hL : L ≤ 3072) (hk : 6 * k + 6 ≤ L) (hc : cells + 70 ≤ 600000) (hs : slots + 4300 ≤ 7302250) {σ : ex_S} {T : Tol} {I : Nat → Option Tol} (h : Inv σ x T I) (hnext : ∀ (τ : ex_S) (T1 : Tol) (I1 : Nat → Option Tol) (mc ms : Nat), mc ≤ 70 → ms ≤ 4300 → Inv τ x T1 I1 → Ev Γ 600000 7302250 m_Law_law (cells + mc) (slots + ms) 2095 [some (.ref b), some (.ref x), some (.ref (x + 117)), some (.int (nI (6 * k)))] [] τ Q) : Ev Γ 600000 7302250 m_Law_law cells slots 1001 [some (.ref b), some (.ref x), some (.ref (x + 117)), some (.int (nI (6 * k)))] [] σ Q := by
  refine Ev.aload_n rfl rfl ?_
  refine Ev.aload_n rfl rfl ?_
  refine Ev.iload_n rfl rfl ?_
  refine Ev.iconst (v := 1) rfl (by decide) ?_
  refine Ev.iadd rfl ?_
  refine Ev.ialdSN (k := 6 * k + 1) rfl hA (nq_add (a := 6 * k) (b := 1) rfl rfl) ⟨by omega, by omega⟩ ?_
  refine Ev.aload_n rfl rfl ?_
  refine Ev.iload_n rfl rfl ?_
  refine Ev.iconst (v := 2) rfl (by decide) ?_
  refine Ev.iadd rfl ?_
  refine Ev.ialdSN (k := 6 * k + 2) rfl hA (nq_add (a := 6 * k) (b := 2) rfl rfl) ⟨by omega, by omega⟩ ?_
  refine Ev.aload_n rfl rfl ?_
  refine Ev.iload_n rfl rfl ?_
  refine Ev.iconst (v := 3) rfl (by decide) ?_
  refine Ev.iadd rfl ?_
  refine Ev.ialdSN (k := 6 * k + 3) rfl hA (nq_add (a := 6 * k) (b := 3) rfl rfl) ⟨by omega, by omega⟩ ?_
  obtain ⟨v, T1, I1, ⟨mc, ms, a1, a2, hC⟩, hM1⟩ := pr_move (Γ := Γ) (x := x) (xs (6 * k + 1)) (xs (6 * k + 2)) (xs (6 * k + 3)) σ T I h
  refine Ev.callV (as := [.int (xs (6 * k + 1)), .int (xs (6 * k + 2)), .int (xs (6 * k + 3))]) (st := []) rfl rfl h.1.1 rfl rfl rfl rfl (Nat.le_of_ble_eq_true rfl) ⟨by omega, by omega⟩ hC (fun r τ q => ?_)
  obtain ⟨rfl, hMid⟩ := q
  obtain ⟨g, A, hMM, -⟩ := hMid.m
  change Ev Γ 600000 7302250 m_Law_law (cells + mc) (slots + ms) 1020 [some (.ref b), some (.ref x), some (.ref (x + 117)), some (.int (nI (6 * k)))] [.int v] τ Q
  refine Ev.aload_n rfl rfl ?_
  refine Ev.aload_n rfl rfl ?_
  refine Ev.iload_n rfl rfl ?_
  refine Ev.iconst (v := 1) rfl (by decide) ?_
  refine Ev.iadd rfl ?_
  refine Ev.ialdSN (k := 6 * k + 1) rfl hA (nq_add (a := 6 * k) (b := 1) rfl rfl) ⟨by omega, by omega⟩ ?_
  refine Ev.aload_n rfl rfl ?_
  refine Ev.iload_n rfl rfl ?_
  refine Ev.iconst (v := 2) rfl (by decide) ?_
  refine Ev.iadd rfl ?_
  refine Ev.ialdSN (k := 6 * k + 2) rfl hA (nq_add (a := 6 * k) (b := 2) rfl rfl) ⟨by omega, by omega⟩ ?_
  refine Ev.aload_n rfl rfl ?_
  refine Ev.iload_n rfl rfl ?_
  refine Ev.iconst (v := 3) rfl (by decide) ?_
  refine Ev.iadd rfl ?_
  refine Ev.ialdSN (k := 6 * k + 3) rfl hA (nq_add (a := 6 * k) (b := 3) rfl rfl) ⟨by omega, by omega⟩ ?_
  refine Ev.callV (mc := 0) (ms := 0) (as := [.int (xs (6 * k + 1)), .int (xs (6 * k + 2)), .int (xs (6 * k + 3))]) (st := [.int v]) rfl rfl hMM.1 rfl rfl rfl rfl (Nat.le_of_ble_eq_true rfl) ⟨by omega, by omega⟩ (hM1 τ hMid) (fun r υ q => ?_)
  obtain ⟨rfl, hI1⟩ := q
  change Ev Γ 600000 7302250 m_Law_law (cells + mc) (slots + ms) 1039 [some (.ref b), some (.ref x), some (.ref (x + 117)), some (.int (nI (6 * k)))] [.int v, .int v] υ Q
  refine Ev.icmp_eq (tgt := 2095) rfl (by decide) (fun _ => ?_) (fun c => absurd rfl c)
  exact hnext υ T1 I1 mc ms a1 a2 hI1
/- ill -/
set_option maxRecDepth 16384 in
theorem law_20 (hA : (b, 0, L, xs) ∈ gA Γ) (hL : L ≤ 3072) (hk : 6 * k + 6 ≤ L) (hc : cells + 70 ≤ 600000) (hs : slots + 4300 ≤ 7302250) {σ : ex_S} {T : Tol} {I : Nat → Option Tol} (h : Inv σ x T I) (hnext : ∀ (τ : ex_S) (T1 : Tol) (I1 : Nat → Option Tol) (mc ms : Nat), mc ≤ 70 → ms ≤ 4300 → Inv τ x T1 I1 → Ev Γ 600000 7302250 m_Law_law (cells + mc) (slots + ms) 2095 [some (.ref b), some (.ref x), some (.ref (x + 117)), some (.int (nI (6 * k)))] [] τ Q) : Ev Γ 600000 7302250 m_Law_law cells slots 1044 [some (.ref b), some (.ref x), some (.ref (x + 117)), some (.int (nI (6 * k)))] [] σ Q := by
  refine Ev.aload_n rfl rfl ?_
  refine Ev.aload_n rfl rfl ?_
  refine Ev.iload_n rfl rfl ?_
  refine Ev.iconst (v := 1) rfl (by decide) ?_
  refine Ev.iadd rfl ?_
  refine Ev.ialdSN (k := 6 * k + 1) rfl hA (nq_add (a := 6 * k) (b := 1) rfl rfl) ⟨by omega, by omega⟩ ?_
  refine Ev.aload_n rfl rfl ?_
  refine Ev.iload_n rfl rfl ?_
  refine Ev.iconst (v := 2) rfl (by decide) ?_
  refine Ev.iadd rfl ?_
  refine Ev.ialdSN (k := 6 * k + 2) rfl hA (nq_add (a := 6 * k) (b := 2) rfl rfl) ⟨by omega, by omega⟩ ?_
  refine Ev.aload_n rfl rfl ?_
  refine Ev.iload_n rfl rfl ?_
  refine Ev.iconst (v := 3) rfl (by decide) ?_
  refine Ev.iadd rfl ?_
  refine Ev.ialdSN (k := 6 * k + 3) rfl hA (nq_add (a := 6 * k) (b := 3) rfl rfl) ⟨by omega, by omega⟩ ?_
  obtain ⟨v, T1, I1, ⟨mc, ms, a1, a2, hC⟩, hM1⟩ := pr_ill (Γ := Γ) (x := x) (xs (6 * k + 1)) (xs (6 * k + 2)) (xs (6 * k + 3)) σ T I h
  refine Ev.callV (as := [.int (xs (6 * k + 1)), .int (xs (6 * k + 2)), .int (xs (6 * k + 3))]) (st := []) rfl rfl h.1.1 rfl rfl rfl rfl (Nat.le_of_ble_eq_true rfl) ⟨by omega, by omega⟩ hC (fun r τ q => ?_)
  obtain ⟨rfl, hMid⟩ := q
  obtain ⟨g, A, hMM, -⟩ := hMid.m
  change Ev Γ 600000 7302250 m_Law_law (cells + mc) (slots + ms) 1063 [some (.ref b), some (.ref x), some (.ref (x + 117)), some (.int (nI (6 * k)))] [.int v] τ Q
  refine Ev.aload_n rfl rfl ?_
  refine Ev.aload_n rfl rfl ?_
  refine Ev.iload_n rfl rfl ?_
  refine Ev.iconst (v := 1) rfl (by decide) ?_
  refine Ev.iadd rfl ?_
  refine Ev.ialdSN (k := 6 * k + 1) rfl hA (nq_add (a := 6 * k) (b := 1) rfl rfl) ⟨by omega, by omega⟩ ?_
  refine Ev.aload_n rfl rfl ?_
  refine Ev.iload_n rfl rfl ?_
  refine Ev.iconst (v := 2) rfl (by decide) ?_
  refine Ev.iadd rfl ?_
  refine Ev.ialdSN (k := 6 * k + 2) rfl hA (nq_add (a := 6 * k) (b := 2) rfl rfl) ⟨by omega, by omega⟩ ?_
  refine Ev.aload_n rfl rfl ?_
  refine Ev.iload_n rfl rfl ?_
  refine Ev.iconst (v := 3) rfl (by decide) ?_
  refine Ev.iadd rfl ?_
  refine Ev.ialdSN (k := 6 * k + 3) rfl hA (nq_add (a := 6 * k) (b := 3) rfl rfl) ⟨by omega, by omega⟩ ?_
  refine Ev.callV (mc := 0) (ms := 0) (as := [.int (xs (6 * k + 1)), .int (xs (6 * k + 2)), .int (xs (6 * k + 3))]) (st := [.int v]) rfl rfl hMM.1 rfl rfl rfl rfl (Nat.le_of_ble_eq_true rfl) ⟨by omega, by omega⟩ (hM1 τ hMid) (fun r υ q => ?_)
  obtain ⟨rfl, hI1⟩ := q
  change Ev Γ 600000 7302250 m_Law_law (cells + mc) (slots + ms) 1082 [some (.ref b), some (.ref x), some (.ref (x + 117)), some (.int (nI (6 * k)))] [.int v, .int v] υ Q
  refine Ev.icmp_eq (tgt := 2095) rfl (by decide) (fun _ => ?_) (fun c => absurd rfl c)
  exact hnext υ T1 I1 mc ms a1 a2 hI1
/- fills -/
set_option maxRecDepth 16384 in
theorem law_21 (hA : (b, 0, L, xs) ∈ gA Γ) (hL : L ≤ 3072) (hk : 6 * k + 6 ≤ L) (hc : cells + 70 ≤ 600000) (hs : slots + 4300 ≤ 7302250) {σ : ex_S} {T : Tol} {I : Nat → Option Tol} (h : Inv σ x T I) (hnext : ∀ (τ : ex_S) (T1 : Tol) (I1 : Nat → Option Tol) (mc ms : Nat), mc ≤ 70 → ms ≤ 4300 → Inv τ x T1 I1 → Ev Γ 600000 7302250 m_Law_law (cells + mc) (slots + ms) 2095 [some (.ref b), some (.ref x), some (.ref (x + 117)), some (.int (nI (6 * k)))] [] τ Q) : Ev Γ 600000 7302250 m_Law_law cells slots 1087 [some (.ref b), some (.ref x), some (.ref (x + 117)), some (.int (nI (6 * k)))] [] σ Q := by
  by_cases s2 : xs (6 * k + 2) = 0
  · skip
    refine Ev.aload_n rfl rfl ?_
    refine Ev.aload_n rfl rfl ?_
    refine Ev.iload_n rfl rfl ?_
    refine Ev.iconst (v := 1) rfl (by decide) ?_
    refine Ev.iadd rfl ?_
    refine Ev.ialdSN (k := 6 * k + 1) rfl hA (nq_add (a := 6 * k) (b := 1) rfl rfl) ⟨by omega, by omega⟩ ?_
    refine Ev.aload_n rfl rfl ?_
    refine Ev.iload_n rfl rfl ?_
    refine Ev.iconst (v := 2) rfl (by decide) ?_
    refine Ev.iadd rfl ?_
    refine Ev.ialdSN (k := 6 * k + 2) rfl hA (nq_add (a := 6 * k) (b := 2) rfl rfl) ⟨by omega, by omega⟩ ?_
    refine Ev.if_eq (tgt := 1105) rfl (by decide) (fun _ => ?_) (fun c => absurd s2 c)
    refine Ev.iconst (v := 0) rfl (by decide) ?_
    obtain ⟨v, T1, I1, ⟨mc, ms, a1, a2, hC⟩, hM1⟩ := pr_fills (Γ := Γ) (x := x) (xs (6 * k + 1)) 0 σ T I h
    refine Ev.callV (as := [.int (xs (6 * k + 1)), .int 0]) (st := []) rfl rfl h.1.1 rfl rfl rfl rfl (Nat.le_of_ble_eq_true rfl) ⟨by omega, by omega⟩ hC (fun r τ q => ?_)
    obtain ⟨rfl, hMid⟩ := q
    obtain ⟨g, A, hMM, -⟩ := hMid.m
    change Ev Γ 600000 7302250 m_Law_law (cells + mc) (slots + ms) 1109 [some (.ref b), some (.ref x), some (.ref (x + 117)), some (.int (nI (6 * k)))] [.int v] τ Q
    refine Ev.aload_n rfl rfl ?_
    refine Ev.aload_n rfl rfl ?_
    refine Ev.iload_n rfl rfl ?_
    refine Ev.iconst (v := 1) rfl (by decide) ?_
    refine Ev.iadd rfl ?_
    refine Ev.ialdSN (k := 6 * k + 1) rfl hA (nq_add (a := 6 * k) (b := 1) rfl rfl) ⟨by omega, by omega⟩ ?_
    refine Ev.aload_n rfl rfl ?_
    refine Ev.iload_n rfl rfl ?_
    refine Ev.iconst (v := 2) rfl (by decide) ?_
    refine Ev.iadd rfl ?_
    refine Ev.ialdSN (k := 6 * k + 2) rfl hA (nq_add (a := 6 * k) (b := 2) rfl rfl) ⟨by omega, by omega⟩ ?_
    refine Ev.if_eq (tgt := 1127) rfl (by decide) (fun _ => ?_) (fun c => absurd s2 c)
    refine Ev.iconst (v := 0) rfl (by decide) ?_
    refine Ev.callV (mc := 0) (ms := 0) (as := [.int (xs (6 * k + 1)), .int 0]) (st := [.int v]) rfl rfl hMM.1 rfl rfl rfl rfl (Nat.le_of_ble_eq_true rfl) ⟨by omega, by omega⟩ (hM1 τ hMid) (fun r υ q => ?_)
    obtain ⟨rfl, hI1⟩ := q
    change Ev Γ 600000 7302250 m_Law_law (cells + mc) (slots + ms) 1131 [some (.ref b), some (.ref x), some (.ref (x + 117)), some (.int (nI (6 * k)))] [.int v, .int v] υ Q
    refine Ev.icmp_eq (tgt := 2095) rfl (by decide) (fun _ => ?_) (fun c => absurd rfl c)
    exact hnext υ T1 I1 mc ms a1 a2 hI1
  · skip
    refine Ev.aload_n rfl rfl ?_
    refine Ev.aload_n rfl rfl ?_
    refine Ev.iload_n rfl rfl ?_
    refine Ev.iconst (v := 1) rfl (by decide) ?_
    refine Ev.iadd rfl ?_
    refine Ev.ialdSN (k := 6 * k + 1) rfl hA (nq_add (a := 6 * k) (b := 1) rfl rfl) ⟨by omega, by omega⟩ ?_
    refine Ev.aload_n rfl rfl ?_
    refine Ev.iload_n rfl rfl ?_
    refine Ev.iconst (v := 2) rfl (by decide) ?_
    refine Ev.iadd rfl ?_
    refine Ev.ialdSN (k := 6 * k + 2) rfl hA (nq_add (a := 6 * k) (b := 2) rfl rfl) ⟨by omega, by omega⟩ ?_
    refine Ev.if_eq (tgt := 1105) rfl (by decide) (fun c => absurd c s2) (fun _ => ?_)
    refine Ev.iconst (v := 1) rfl (by decide) ?_
    refine Ev.goto (tgt := 1106) rfl (by decide) ?_
    obtain ⟨v, T1, I1, ⟨mc, ms, a1, a2, hC⟩, hM1⟩ := pr_fills (Γ := Γ) (x := x) (xs (6 * k + 1)) 1 σ T I h
    refine Ev.callV (as := [.int (xs (6 * k + 1)), .int 1]) (st := []) rfl rfl h.1.1 rfl rfl rfl rfl (Nat.le_of_ble_eq_true rfl) ⟨by omega, by omega⟩ hC (fun r τ q => ?_)
    obtain ⟨rfl, hMid⟩ := q
    obtain ⟨g, A, hMM, -⟩ := hMid.m
    change Ev Γ 600000 7302250 m_Law_law (cells + mc) (slots + ms) 1109 [some (.ref b), some (.ref x), some (.ref (x + 117)), some (.int (nI (6 * k)))] [.int v] τ Q
    refine Ev.aload_n rfl rfl ?_
    refine Ev.aload_n rfl rfl ?_
    refine Ev.iload_n rfl rfl ?_
    refine Ev.iconst (v := 1) rfl (by decide) ?_
    refine Ev.iadd rfl ?_
    refine Ev.ialdSN (k := 6 * k + 1) rfl hA (nq_add (a := 6 * k) (b := 1) rfl rfl) ⟨by omega, by omega⟩ ?_
    refine Ev.aload_n rfl rfl ?_
    refine Ev.iload_n rfl rfl ?_
    refine Ev.iconst (v := 2) rfl (by decide) ?_
    refine Ev.iadd rfl ?_
    refine Ev.ialdSN (k := 6 * k + 2) rfl hA (nq_add (a := 6 * k) (b := 2) rfl rfl) ⟨by omega, by omega⟩ ?_
    refine Ev.if_eq (tgt := 1127) rfl (by decide) (fun c => absurd c s2) (fun _ => ?_)
    refine Ev.iconst (v := 1) rfl (by decide) ?_
    refine Ev.goto (tgt := 1128) rfl (by decide) ?_
    refine Ev.callV (mc := 0) (ms := 0) (as := [.int (xs (6 * k + 1)), .int 1]) (st := [.int v]) rfl rfl hMM.1 rfl rfl rfl rfl (Nat.le_of_ble_eq_true rfl) ⟨by omega, by omega⟩ (hM1 τ hMid) (fun r υ q => ?_)
    obtain ⟨rfl, hI1⟩ := q
    change Ev Γ 600000 7302250 m_Law_law (cells + mc) (slots + ms) 1131 [some (.ref b), some (.ref x), some (.ref (x + 117)), some (.int (nI (6 * k)))] [.int v, .int v] υ Q
    refine Ev.icmp_eq (tgt := 2095) rfl (by decide) (fun _ => ?_) (fun c => absurd rfl c)
    exact hnext υ T1 I1 mc ms a1 a2 hI1
/- next -/
set_option maxRecDepth 16384 in
theorem law_22 (hA : (b, 0, L, xs) ∈ gA Γ) (hL : L ≤ 3072) (hk : 6 * k + 6 ≤ L) (hc : cells + 70 ≤ 600000) (hs : slots + 4300 ≤ 7302250) {σ : ex_S} {T : Tol} {I : Nat → Option Tol} (h : Inv σ x T I) (hnext : ∀ (τ : ex_S) (T1 : Tol) (I1 : Nat → Option Tol) (mc ms : Nat), mc ≤ 70 → ms ≤ 4300 → Inv τ x T1 I1 → Ev Γ 600000 7302250 m_Law_law (cells + mc) (slots + ms) 2095 [some (.ref b), some (.ref x), some (.ref (x + 117)), some (.int (nI (6 * k)))] [] τ Q) : Ev Γ 600000 7302250 m_Law_law cells slots 1136 [some (.ref b), some (.ref x), some (.ref (x + 117)), some (.int (nI (6 * k)))] [] σ Q := by
  refine Ev.aload_n rfl rfl ?_
  refine Ev.aload_n rfl rfl ?_
  refine Ev.iload_n rfl rfl ?_
  refine Ev.iconst (v := 1) rfl (by decide) ?_
  refine Ev.iadd rfl ?_
  refine Ev.ialdSN (k := 6 * k + 1) rfl hA (nq_add (a := 6 * k) (b := 1) rfl rfl) ⟨by omega, by omega⟩ ?_
  refine Ev.aload_n rfl rfl ?_
  refine Ev.iload_n rfl rfl ?_
  refine Ev.iconst (v := 2) rfl (by decide) ?_
  refine Ev.iadd rfl ?_
  refine Ev.ialdSN (k := 6 * k + 2) rfl hA (nq_add (a := 6 * k) (b := 2) rfl rfl) ⟨by omega, by omega⟩ ?_
  refine Ev.aload_n rfl rfl ?_
  refine Ev.iload_n rfl rfl ?_
  refine Ev.iconst (v := 3) rfl (by decide) ?_
  refine Ev.iadd rfl ?_
  refine Ev.ialdSN (k := 6 * k + 3) rfl hA (nq_add (a := 6 * k) (b := 3) rfl rfl) ⟨by omega, by omega⟩ ?_
  obtain ⟨v, T1, I1, ⟨mc, ms, a1, a2, hC⟩, hM1⟩ := pr_next (Γ := Γ) (x := x) (xs (6 * k + 1)) (xs (6 * k + 2)) (xs (6 * k + 3)) σ T I h
  refine Ev.callV (as := [.int (xs (6 * k + 1)), .int (xs (6 * k + 2)), .int (xs (6 * k + 3))]) (st := []) rfl rfl h.1.1 rfl rfl rfl rfl (Nat.le_of_ble_eq_true rfl) ⟨by omega, by omega⟩ hC (fun r τ q => ?_)
  obtain ⟨rfl, hMid⟩ := q
  obtain ⟨g, A, hMM, -⟩ := hMid.m
  change Ev Γ 600000 7302250 m_Law_law (cells + mc) (slots + ms) 1155 [some (.ref b), some (.ref x), some (.ref (x + 117)), some (.int (nI (6 * k)))] [.int v] τ Q
  refine Ev.aload_n rfl rfl ?_
  refine Ev.aload_n rfl rfl ?_
  refine Ev.iload_n rfl rfl ?_
  refine Ev.iconst (v := 1) rfl (by decide) ?_
  refine Ev.iadd rfl ?_
  refine Ev.ialdSN (k := 6 * k + 1) rfl hA (nq_add (a := 6 * k) (b := 1) rfl rfl) ⟨by omega, by omega⟩ ?_
  refine Ev.aload_n rfl rfl ?_
  refine Ev.iload_n rfl rfl ?_
  refine Ev.iconst (v := 2) rfl (by decide) ?_
  refine Ev.iadd rfl ?_
  refine Ev.ialdSN (k := 6 * k + 2) rfl hA (nq_add (a := 6 * k) (b := 2) rfl rfl) ⟨by omega, by omega⟩ ?_
  refine Ev.aload_n rfl rfl ?_
  refine Ev.iload_n rfl rfl ?_
  refine Ev.iconst (v := 3) rfl (by decide) ?_
  refine Ev.iadd rfl ?_
  refine Ev.ialdSN (k := 6 * k + 3) rfl hA (nq_add (a := 6 * k) (b := 3) rfl rfl) ⟨by omega, by omega⟩ ?_
  refine Ev.callV (mc := 0) (ms := 0) (as := [.int (xs (6 * k + 1)), .int (xs (6 * k + 2)), .int (xs (6 * k + 3))]) (st := [.int v]) rfl rfl hMM.1 rfl rfl rfl rfl (Nat.le_of_ble_eq_true rfl) ⟨by omega, by omega⟩ (hM1 τ hMid) (fun r υ q => ?_)
  obtain ⟨rfl, hI1⟩ := q
  change Ev Γ 600000 7302250 m_Law_law (cells + mc) (slots + ms) 1174 [some (.ref b), some (.ref x), some (.ref (x + 117)), some (.int (nI (6 * k)))] [.int v, .int v] υ Q
  refine Ev.icmp_eq (tgt := 2095) rfl (by decide) (fun _ => ?_) (fun c => absurd rfl c)
  exact hnext υ T1 I1 mc ms a1 a2 hI1
/- ladder -/
set_option maxRecDepth 16384 in
theorem law_23 (hA : (b, 0, L, xs) ∈ gA Γ) (hL : L ≤ 3072) (hk : 6 * k + 6 ≤ L) (hc : cells + 70 ≤ 600000) (hs : slots + 4300 ≤ 7302250) {σ : ex_S} {T : Tol} {I : Nat → Option Tol} (h : Inv σ x T I) (hnext : ∀ (τ : ex_S) (T1 : Tol) (I1 : Nat → Option Tol) (mc ms : Nat), mc ≤ 70 → ms ≤ 4300 → Inv τ x T1 I1 → Ev Γ 600000 7302250 m_Law_law (cells + mc) (slots + ms) 2095 [some (.ref b), some (.ref x), some (.ref (x + 117)), some (.int (nI (6 * k)))] [] τ Q) : Ev Γ 600000 7302250 m_Law_law cells slots 1179 [some (.ref b), some (.ref x), some (.ref (x + 117)), some (.int (nI (6 * k)))] [] σ Q := by
  refine Ev.aload_n rfl rfl ?_
  refine Ev.aload_n rfl rfl ?_
  refine Ev.iload_n rfl rfl ?_
  refine Ev.iconst (v := 1) rfl (by decide) ?_
  refine Ev.iadd rfl ?_
  refine Ev.ialdSN (k := 6 * k + 1) rfl hA (nq_add (a := 6 * k) (b := 1) rfl rfl) ⟨by omega, by omega⟩ ?_
  refine Ev.aload_n rfl rfl ?_
  refine Ev.iload_n rfl rfl ?_
  refine Ev.iconst (v := 2) rfl (by decide) ?_
  refine Ev.iadd rfl ?_
  refine Ev.ialdSN (k := 6 * k + 2) rfl hA (nq_add (a := 6 * k) (b := 2) rfl rfl) ⟨by omega, by omega⟩ ?_
  refine Ev.aload_n rfl rfl ?_
  refine Ev.iload_n rfl rfl ?_
  refine Ev.iconst (v := 3) rfl (by decide) ?_
  refine Ev.iadd rfl ?_
  refine Ev.ialdSN (k := 6 * k + 3) rfl hA (nq_add (a := 6 * k) (b := 3) rfl rfl) ⟨by omega, by omega⟩ ?_
  obtain ⟨v, T1, I1, ⟨mc, ms, a1, a2, hC⟩, hM1⟩ := pr_ladder (Γ := Γ) (x := x) (xs (6 * k + 1)) (xs (6 * k + 2)) (xs (6 * k + 3)) σ T I h
  refine Ev.callV (as := [.int (xs (6 * k + 1)), .int (xs (6 * k + 2)), .int (xs (6 * k + 3))]) (st := []) rfl rfl h.1.1 rfl rfl rfl rfl (Nat.le_of_ble_eq_true rfl) ⟨by omega, by omega⟩ hC (fun r τ q => ?_)
  obtain ⟨rfl, hMid⟩ := q
  obtain ⟨g, A, hMM, -⟩ := hMid.m
  change Ev Γ 600000 7302250 m_Law_law (cells + mc) (slots + ms) 1198 [some (.ref b), some (.ref x), some (.ref (x + 117)), some (.int (nI (6 * k)))] [.int v] τ Q
  refine Ev.aload_n rfl rfl ?_
  refine Ev.aload_n rfl rfl ?_
  refine Ev.iload_n rfl rfl ?_
  refine Ev.iconst (v := 1) rfl (by decide) ?_
  refine Ev.iadd rfl ?_
  refine Ev.ialdSN (k := 6 * k + 1) rfl hA (nq_add (a := 6 * k) (b := 1) rfl rfl) ⟨by omega, by omega⟩ ?_
  refine Ev.aload_n rfl rfl ?_
  refine Ev.iload_n rfl rfl ?_
  refine Ev.iconst (v := 2) rfl (by decide) ?_
  refine Ev.iadd rfl ?_
  refine Ev.ialdSN (k := 6 * k + 2) rfl hA (nq_add (a := 6 * k) (b := 2) rfl rfl) ⟨by omega, by omega⟩ ?_
  refine Ev.aload_n rfl rfl ?_
  refine Ev.iload_n rfl rfl ?_
  refine Ev.iconst (v := 3) rfl (by decide) ?_
  refine Ev.iadd rfl ?_
  refine Ev.ialdSN (k := 6 * k + 3) rfl hA (nq_add (a := 6 * k) (b := 3) rfl rfl) ⟨by omega, by omega⟩ ?_
  refine Ev.callV (mc := 0) (ms := 0) (as := [.int (xs (6 * k + 1)), .int (xs (6 * k + 2)), .int (xs (6 * k + 3))]) (st := [.int v]) rfl rfl hMM.1 rfl rfl rfl rfl (Nat.le_of_ble_eq_true rfl) ⟨by omega, by omega⟩ (hM1 τ hMid) (fun r υ q => ?_)
  obtain ⟨rfl, hI1⟩ := q
  change Ev Γ 600000 7302250 m_Law_law (cells + mc) (slots + ms) 1217 [some (.ref b), some (.ref x), some (.ref (x + 117)), some (.int (nI (6 * k)))] [.int v, .int v] υ Q
  refine Ev.icmp_eq (tgt := 2095) rfl (by decide) (fun _ => ?_) (fun c => absurd rfl c)
  exact hnext υ T1 I1 mc ms a1 a2 hI1
/- weeks -/
set_option maxRecDepth 16384 in
theorem law_25 (hA : (b, 0, L, xs) ∈ gA Γ) (hL : L ≤ 3072) (hk : 6 * k + 6 ≤ L) (hc : cells + 70 ≤ 600000) (hs : slots + 4300 ≤ 7302250) {σ : ex_S} {T : Tol} {I : Nat → Option Tol} (h : Inv σ x T I) (hnext : ∀ (τ : ex_S) (T1 : Tol) (I1 : Nat → Option Tol) (mc ms : Nat), mc ≤ 70 → ms ≤ 4300 → Inv τ x T1 I1 → Ev Γ 600000 7302250 m_Law_law (cells + mc) (slots + ms) 2095 [some (.ref b), some (.ref x), some (.ref (x + 117)), some (.int (nI (6 * k)))] [] τ Q) : Ev Γ 600000 7302250 m_Law_law cells slots 1275 [some (.ref b), some (.ref x), some (.ref (x + 117)), some (.int (nI (6 * k)))] [] σ Q := by
  refine Ev.aload_n rfl rfl ?_
  refine Ev.aload_n rfl rfl ?_
  refine Ev.iload_n rfl rfl ?_
  refine Ev.iconst (v := 1) rfl (by decide) ?_
  refine Ev.iadd rfl ?_
  refine Ev.ialdSN (k := 6 * k + 1) rfl hA (nq_add (a := 6 * k) (b := 1) rfl rfl) ⟨by omega, by omega⟩ ?_
  refine Ev.aload_n rfl rfl ?_
  refine Ev.iload_n rfl rfl ?_
  refine Ev.iconst (v := 2) rfl (by decide) ?_
  refine Ev.iadd rfl ?_
  refine Ev.ialdSN (k := 6 * k + 2) rfl hA (nq_add (a := 6 * k) (b := 2) rfl rfl) ⟨by omega, by omega⟩ ?_
  refine Ev.aload_n rfl rfl ?_
  refine Ev.iload_n rfl rfl ?_
  refine Ev.iconst (v := 3) rfl (by decide) ?_
  refine Ev.iadd rfl ?_
  refine Ev.ialdSN (k := 6 * k + 3) rfl hA (nq_add (a := 6 * k) (b := 3) rfl rfl) ⟨by omega, by omega⟩ ?_
  refine Ev.aload_n rfl rfl ?_
  refine Ev.iload_n rfl rfl ?_
  refine Ev.iconst (v := 4) rfl (by decide) ?_
  refine Ev.iadd rfl ?_
  refine Ev.ialdSN (k := 6 * k + 4) rfl hA (nq_add (a := 6 * k) (b := 4) rfl rfl) ⟨by omega, by omega⟩ ?_
  refine Ev.aload_n rfl rfl ?_
  refine Ev.iload_n rfl rfl ?_
  refine Ev.iconst (v := 5) rfl (by decide) ?_
  refine Ev.iadd rfl ?_
  refine Ev.ialdSN (k := 6 * k + 5) rfl hA (nq_add (a := 6 * k) (b := 5) rfl rfl) ⟨by omega, by omega⟩ ?_
  obtain ⟨v, T1, I1, ⟨mc, ms, a1, a2, hC⟩, hM1⟩ := pr_weeks (Γ := Γ) (x := x) (xs (6 * k + 1)) (xs (6 * k + 2)) (xs (6 * k + 3)) (xs (6 * k + 4)) (xs (6 * k + 5)) σ T I h
  refine Ev.callV (as := [.int (xs (6 * k + 1)), .int (xs (6 * k + 2)), .int (xs (6 * k + 3)), .int (xs (6 * k + 4)), .int (xs (6 * k + 5))]) (st := []) rfl rfl h.1.1 rfl rfl rfl rfl (Nat.le_of_ble_eq_true rfl) ⟨by omega, by omega⟩ hC (fun r τ q => ?_)
  obtain ⟨rfl, hMid⟩ := q
  obtain ⟨g, A, hMM, -⟩ := hMid.m
  change Ev Γ 600000 7302250 m_Law_law (cells + mc) (slots + ms) 1304 [some (.ref b), some (.ref x), some (.ref (x + 117)), some (.int (nI (6 * k)))] [.int v] τ Q
  refine Ev.aload_n rfl rfl ?_
  refine Ev.aload_n rfl rfl ?_
  refine Ev.iload_n rfl rfl ?_
  refine Ev.iconst (v := 1) rfl (by decide) ?_
  refine Ev.iadd rfl ?_
  refine Ev.ialdSN (k := 6 * k + 1) rfl hA (nq_add (a := 6 * k) (b := 1) rfl rfl) ⟨by omega, by omega⟩ ?_
  refine Ev.aload_n rfl rfl ?_
  refine Ev.iload_n rfl rfl ?_
  refine Ev.iconst (v := 2) rfl (by decide) ?_
  refine Ev.iadd rfl ?_
  refine Ev.ialdSN (k := 6 * k + 2) rfl hA (nq_add (a := 6 * k) (b := 2) rfl rfl) ⟨by omega, by omega⟩ ?_
  refine Ev.aload_n rfl rfl ?_
  refine Ev.iload_n rfl rfl ?_
  refine Ev.iconst (v := 3) rfl (by decide) ?_
  refine Ev.iadd rfl ?_
  refine Ev.ialdSN (k := 6 * k + 3) rfl hA (nq_add (a := 6 * k) (b := 3) rfl rfl) ⟨by omega, by omega⟩ ?_
  refine Ev.aload_n rfl rfl ?_
  refine Ev.iload_n rfl rfl ?_
  refine Ev.iconst (v := 4) rfl (by decide) ?_
  refine Ev.iadd rfl ?_
  refine Ev.ialdSN (k := 6 * k + 4) rfl hA (nq_add (a := 6 * k) (b := 4) rfl rfl) ⟨by omega, by omega⟩ ?_
  refine Ev.aload_n rfl rfl ?_
  refine Ev.iload_n rfl rfl ?_
  refine Ev.iconst (v := 5) rfl (by decide) ?_
  refine Ev.iadd rfl ?_
  refine Ev.ialdSN (k := 6 * k + 5) rfl hA (nq_add (a := 6 * k) (b := 5) rfl rfl) ⟨by omega, by omega⟩ ?_
  refine Ev.callV (mc := 0) (ms := 0) (as := [.int (xs (6 * k + 1)), .int (xs (6 * k + 2)), .int (xs (6 * k + 3)), .int (xs (6 * k + 4)), .int (xs (6 * k + 5))]) (st := [.int v]) rfl rfl hMM.1 rfl rfl rfl rfl (Nat.le_of_ble_eq_true rfl) ⟨by omega, by omega⟩ (hM1 τ hMid) (fun r υ q => ?_)
  obtain ⟨rfl, hI1⟩ := q
  change Ev Γ 600000 7302250 m_Law_law (cells + mc) (slots + ms) 1333 [some (.ref b), some (.ref x), some (.ref (x + 117)), some (.int (nI (6 * k)))] [.int v, .int v] υ Q
  refine Ev.icmp_eq (tgt := 2095) rfl (by decide) (fun _ => ?_) (fun c => absurd rfl c)
  exact hnext υ T1 I1 mc ms a1 a2 hI1
/- ended -/
set_option maxRecDepth 16384 in
theorem law_26 (hA : (b, 0, L, xs) ∈ gA Γ) (hL : L ≤ 3072) (hk : 6 * k + 6 ≤ L) (hc : cells + 70 ≤ 600000) (hs : slots + 4300 ≤ 7302250) {σ : ex_S} {T : Tol} {I : Nat → Option Tol} (h : Inv σ x T I) (hnext : ∀ (τ : ex_S) (T1 : Tol) (I1 : Nat → Option Tol) (mc ms : Nat), mc ≤ 70 → ms ≤ 4300 → Inv τ x T1 I1 → Ev Γ 600000 7302250 m_Law_law (cells + mc) (slots + ms) 2095 [some (.ref b), some (.ref x), some (.ref (x + 117)), some (.int (nI (6 * k)))] [] τ Q) : Ev Γ 600000 7302250 m_Law_law cells slots 1338 [some (.ref b), some (.ref x), some (.ref (x + 117)), some (.int (nI (6 * k)))] [] σ Q := by
  refine Ev.aload_n rfl rfl ?_
  refine Ev.aload_n rfl rfl ?_
  refine Ev.iload_n rfl rfl ?_
  refine Ev.iconst (v := 1) rfl (by decide) ?_
  refine Ev.iadd rfl ?_
  refine Ev.ialdSN (k := 6 * k + 1) rfl hA (nq_add (a := 6 * k) (b := 1) rfl rfl) ⟨by omega, by omega⟩ ?_
  refine Ev.aload_n rfl rfl ?_
  refine Ev.iload_n rfl rfl ?_
  refine Ev.iconst (v := 2) rfl (by decide) ?_
  refine Ev.iadd rfl ?_
  refine Ev.ialdSN (k := 6 * k + 2) rfl hA (nq_add (a := 6 * k) (b := 2) rfl rfl) ⟨by omega, by omega⟩ ?_
  refine Ev.aload_n rfl rfl ?_
  refine Ev.iload_n rfl rfl ?_
  refine Ev.iconst (v := 3) rfl (by decide) ?_
  refine Ev.iadd rfl ?_
  refine Ev.ialdSN (k := 6 * k + 3) rfl hA (nq_add (a := 6 * k) (b := 3) rfl rfl) ⟨by omega, by omega⟩ ?_
  refine Ev.aload_n rfl rfl ?_
  refine Ev.iload_n rfl rfl ?_
  refine Ev.iconst (v := 4) rfl (by decide) ?_
  refine Ev.iadd rfl ?_
  refine Ev.ialdSN (k := 6 * k + 4) rfl hA (nq_add (a := 6 * k) (b := 4) rfl rfl) ⟨by omega, by omega⟩ ?_
  obtain ⟨v, T1, I1, ⟨mc, ms, a1, a2, hC⟩, hM1⟩ := pr_ended (Γ := Γ) (x := x) (xs (6 * k + 1)) (xs (6 * k + 2)) (xs (6 * k + 3)) (xs (6 * k + 4)) σ T I h
  refine Ev.callV (as := [.int (xs (6 * k + 1)), .int (xs (6 * k + 2)), .int (xs (6 * k + 3)), .int (xs (6 * k + 4))]) (st := []) rfl rfl h.1.1 rfl rfl rfl rfl (Nat.le_of_ble_eq_true rfl) ⟨by omega, by omega⟩ hC (fun r τ q => ?_)
  obtain ⟨rfl, hMid⟩ := q
  obtain ⟨g, A, hMM, -⟩ := hMid.m
  change Ev Γ 600000 7302250 m_Law_law (cells + mc) (slots + ms) 1362 [some (.ref b), some (.ref x), some (.ref (x + 117)), some (.int (nI (6 * k)))] [.int v] τ Q
  refine Ev.aload_n rfl rfl ?_
  refine Ev.aload_n rfl rfl ?_
  refine Ev.iload_n rfl rfl ?_
  refine Ev.iconst (v := 1) rfl (by decide) ?_
  refine Ev.iadd rfl ?_
  refine Ev.ialdSN (k := 6 * k + 1) rfl hA (nq_add (a := 6 * k) (b := 1) rfl rfl) ⟨by omega, by omega⟩ ?_
  refine Ev.aload_n rfl rfl ?_
  refine Ev.iload_n rfl rfl ?_
  refine Ev.iconst (v := 2) rfl (by decide) ?_
  refine Ev.iadd rfl ?_
  refine Ev.ialdSN (k := 6 * k + 2) rfl hA (nq_add (a := 6 * k) (b := 2) rfl rfl) ⟨by omega, by omega⟩ ?_
  refine Ev.aload_n rfl rfl ?_
  refine Ev.iload_n rfl rfl ?_
  refine Ev.iconst (v := 3) rfl (by decide) ?_
  refine Ev.iadd rfl ?_
  refine Ev.ialdSN (k := 6 * k + 3) rfl hA (nq_add (a := 6 * k) (b := 3) rfl rfl) ⟨by omega, by omega⟩ ?_
  refine Ev.aload_n rfl rfl ?_
  refine Ev.iload_n rfl rfl ?_
  refine Ev.iconst (v := 4) rfl (by decide) ?_
  refine Ev.iadd rfl ?_
  refine Ev.ialdSN (k := 6 * k + 4) rfl hA (nq_add (a := 6 * k) (b := 4) rfl rfl) ⟨by omega, by omega⟩ ?_
  refine Ev.callV (mc := 0) (ms := 0) (as := [.int (xs (6 * k + 1)), .int (xs (6 * k + 2)), .int (xs (6 * k + 3)), .int (xs (6 * k + 4))]) (st := [.int v]) rfl rfl hMM.1 rfl rfl rfl rfl (Nat.le_of_ble_eq_true rfl) ⟨by omega, by omega⟩ (hM1 τ hMid) (fun r υ q => ?_)
  obtain ⟨rfl, hI1⟩ := q
  change Ev Γ 600000 7302250 m_Law_law (cells + mc) (slots + ms) 1386 [some (.ref b), some (.ref x), some (.ref (x + 117)), some (.int (nI (6 * k)))] [.int v, .int v] υ Q
  refine Ev.icmp_eq (tgt := 2095) rfl (by decide) (fun _ => ?_) (fun c => absurd rfl c)
  exact hnext υ T1 I1 mc ms a1 a2 hI1
/- lacks -/
set_option maxRecDepth 16384 in
theorem law_27 (hA : (b, 0, L, xs) ∈ gA Γ) (hL : L ≤ 3072) (hk : 6 * k + 6 ≤ L) (hc : cells + 70 ≤ 600000) (hs : slots + 4300 ≤ 7302250) {σ : ex_S} {T : Tol} {I : Nat → Option Tol} (h : Inv σ x T I) (hnext : ∀ (τ : ex_S) (T1 : Tol) (I1 : Nat → Option Tol) (mc ms : Nat), mc ≤ 70 → ms ≤ 4300 → Inv τ x T1 I1 → Ev Γ 600000 7302250 m_Law_law (cells + mc) (slots + ms) 2095 [some (.ref b), some (.ref x), some (.ref (x + 117)), some (.int (nI (6 * k)))] [] τ Q) : Ev Γ 600000 7302250 m_Law_law cells slots 1391 [some (.ref b), some (.ref x), some (.ref (x + 117)), some (.int (nI (6 * k)))] [] σ Q := by
  refine Ev.aload_n rfl rfl ?_
  refine Ev.aload_n rfl rfl ?_
  refine Ev.iload_n rfl rfl ?_
  refine Ev.iconst (v := 1) rfl (by decide) ?_
  refine Ev.iadd rfl ?_
  refine Ev.ialdSN (k := 6 * k + 1) rfl hA (nq_add (a := 6 * k) (b := 1) rfl rfl) ⟨by omega, by omega⟩ ?_
  refine Ev.aload_n rfl rfl ?_
  refine Ev.iload_n rfl rfl ?_
  refine Ev.iconst (v := 2) rfl (by decide) ?_
  refine Ev.iadd rfl ?_
  refine Ev.ialdSN (k := 6 * k + 2) rfl hA (nq_add (a := 6 * k) (b := 2) rfl rfl) ⟨by omega, by omega⟩ ?_
  obtain ⟨v, T1, I1, ⟨mc, ms, a1, a2, hC⟩, hM1⟩ := pr_lacks (Γ := Γ) (x := x) (xs (6 * k + 1)) (xs (6 * k + 2)) σ T I h
  refine Ev.callV (as := [.int (xs (6 * k + 1)), .int (xs (6 * k + 2))]) (st := []) rfl rfl h.1.1 rfl rfl rfl rfl (Nat.le_of_ble_eq_true rfl) ⟨by omega, by omega⟩ hC (fun r τ q => ?_)
  obtain ⟨rfl, hMid⟩ := q
  obtain ⟨g, A, hMM, -⟩ := hMid.m
  change Ev Γ 600000 7302250 m_Law_law (cells + mc) (slots + ms) 1405 [some (.ref b), some (.ref x), some (.ref (x + 117)), some (.int (nI (6 * k)))] [.int v] τ Q
  refine Ev.aload_n rfl rfl ?_
  refine Ev.aload_n rfl rfl ?_
  refine Ev.iload_n rfl rfl ?_
  refine Ev.iconst (v := 1) rfl (by decide) ?_
  refine Ev.iadd rfl ?_
  refine Ev.ialdSN (k := 6 * k + 1) rfl hA (nq_add (a := 6 * k) (b := 1) rfl rfl) ⟨by omega, by omega⟩ ?_
  refine Ev.aload_n rfl rfl ?_
  refine Ev.iload_n rfl rfl ?_
  refine Ev.iconst (v := 2) rfl (by decide) ?_
  refine Ev.iadd rfl ?_
  refine Ev.ialdSN (k := 6 * k + 2) rfl hA (nq_add (a := 6 * k) (b := 2) rfl rfl) ⟨by omega, by omega⟩ ?_
  refine Ev.callV (mc := 0) (ms := 0) (as := [.int (xs (6 * k + 1)), .int (xs (6 * k + 2))]) (st := [.int v]) rfl rfl hMM.1 rfl rfl rfl rfl (Nat.le_of_ble_eq_true rfl) ⟨by omega, by omega⟩ (hM1 τ hMid) (fun r υ q => ?_)
  obtain ⟨rfl, hI1⟩ := q
  change Ev Γ 600000 7302250 m_Law_law (cells + mc) (slots + ms) 1419 [some (.ref b), some (.ref x), some (.ref (x + 117)), some (.int (nI (6 * k)))] [.int v, .int v] υ Q
  refine Ev.icmp_eq (tgt := 2095) rfl (by decide) (fun _ => ?_) (fun c => absurd rfl c)
  exact hnext υ T1 I1 mc ms a1 a2 hI1
/- more -/
set_option maxRecDepth 16384 in
theorem law_28 (hA : (b, 0, L, xs) ∈ gA Γ) (hL : L ≤ 3072) (hk : 6 * k + 6 ≤ L) (hc : cells + 70 ≤ 600000) (hs : slots + 4300 ≤ 7302250) {σ : ex_S} {T : Tol} {I : Nat → Option Tol} (h : Inv σ x T I) (hnext : ∀ (τ : ex_S) (T1 : Tol) (I1 : Nat → Option Tol) (mc ms : Nat), mc ≤ 70 → ms ≤ 4300 → Inv τ x T1 I1 → Ev Γ 600000 7302250 m_Law_law (cells + mc) (slots + ms) 2095 [some (.ref b), some (.ref x), some (.ref (x + 117)), some (.int (nI (6 * k)))] [] τ Q) : Ev Γ 600000 7302250 m_Law_law cells slots 1424 [some (.ref b), some (.ref x), some (.ref (x + 117)), some (.int (nI (6 * k)))] [] σ Q := by
  refine Ev.aload_n rfl rfl ?_
  refine Ev.aload_n rfl rfl ?_
  refine Ev.iload_n rfl rfl ?_
  refine Ev.iconst (v := 1) rfl (by decide) ?_
  refine Ev.iadd rfl ?_
  refine Ev.ialdSN (k := 6 * k + 1) rfl hA (nq_add (a := 6 * k) (b := 1) rfl rfl) ⟨by omega, by omega⟩ ?_
  refine Ev.aload_n rfl rfl ?_
  refine Ev.iload_n rfl rfl ?_
  refine Ev.iconst (v := 2) rfl (by decide) ?_
  refine Ev.iadd rfl ?_
  refine Ev.ialdSN (k := 6 * k + 2) rfl hA (nq_add (a := 6 * k) (b := 2) rfl rfl) ⟨by omega, by omega⟩ ?_
  refine Ev.aload_n rfl rfl ?_
  refine Ev.iload_n rfl rfl ?_
  refine Ev.iconst (v := 3) rfl (by decide) ?_
  refine Ev.iadd rfl ?_
  refine Ev.ialdSN (k := 6 * k + 3) rfl hA (nq_add (a := 6 * k) (b := 3) rfl rfl) ⟨by omega, by omega⟩ ?_
  refine Ev.aload_n rfl rfl ?_
  refine Ev.iload_n rfl rfl ?_
  refine Ev.iconst (v := 4) rfl (by decide) ?_
  refine Ev.iadd rfl ?_
  refine Ev.ialdSN (k := 6 * k + 4) rfl hA (nq_add (a := 6 * k) (b := 4) rfl rfl) ⟨by omega, by omega⟩ ?_
  obtain ⟨v, T1, I1, ⟨mc, ms, a1, a2, hC⟩, hM1⟩ := pr_more (Γ := Γ) (x := x) (xs (6 * k + 1)) (xs (6 * k + 2)) (xs (6 * k + 3)) (xs (6 * k + 4)) σ T I h
  refine Ev.callV (as := [.int (xs (6 * k + 1)), .int (xs (6 * k + 2)), .int (xs (6 * k + 3)), .int (xs (6 * k + 4))]) (st := []) rfl rfl h.1.1 rfl rfl rfl rfl (Nat.le_of_ble_eq_true rfl) ⟨by omega, by omega⟩ hC (fun r τ q => ?_)
  obtain ⟨rfl, hMid⟩ := q
  obtain ⟨g, A, hMM, -⟩ := hMid.m
  change Ev Γ 600000 7302250 m_Law_law (cells + mc) (slots + ms) 1448 [some (.ref b), some (.ref x), some (.ref (x + 117)), some (.int (nI (6 * k)))] [.int v] τ Q
  refine Ev.aload_n rfl rfl ?_
  refine Ev.aload_n rfl rfl ?_
  refine Ev.iload_n rfl rfl ?_
  refine Ev.iconst (v := 1) rfl (by decide) ?_
  refine Ev.iadd rfl ?_
  refine Ev.ialdSN (k := 6 * k + 1) rfl hA (nq_add (a := 6 * k) (b := 1) rfl rfl) ⟨by omega, by omega⟩ ?_
  refine Ev.aload_n rfl rfl ?_
  refine Ev.iload_n rfl rfl ?_
  refine Ev.iconst (v := 2) rfl (by decide) ?_
  refine Ev.iadd rfl ?_
  refine Ev.ialdSN (k := 6 * k + 2) rfl hA (nq_add (a := 6 * k) (b := 2) rfl rfl) ⟨by omega, by omega⟩ ?_
  refine Ev.aload_n rfl rfl ?_
  refine Ev.iload_n rfl rfl ?_
  refine Ev.iconst (v := 3) rfl (by decide) ?_
  refine Ev.iadd rfl ?_
  refine Ev.ialdSN (k := 6 * k + 3) rfl hA (nq_add (a := 6 * k) (b := 3) rfl rfl) ⟨by omega, by omega⟩ ?_
  refine Ev.aload_n rfl rfl ?_
  refine Ev.iload_n rfl rfl ?_
  refine Ev.iconst (v := 4) rfl (by decide) ?_
  refine Ev.iadd rfl ?_
  refine Ev.ialdSN (k := 6 * k + 4) rfl hA (nq_add (a := 6 * k) (b := 4) rfl rfl) ⟨by omega, by omega⟩ ?_
  refine Ev.callV (mc := 0) (ms := 0) (as := [.int (xs (6 * k + 1)), .int (xs (6 * k + 2)), .int (xs (6 * k + 3)), .int (xs (6 * k + 4))]) (st := [.int v]) rfl rfl hMM.1 rfl rfl rfl rfl (Nat.le_of_ble_eq_true rfl) ⟨by omega, by omega⟩ (hM1 τ hMid) (fun r υ q => ?_)
  obtain ⟨rfl, hI1⟩ := q
  change Ev Γ 600000 7302250 m_Law_law (cells + mc) (slots + ms) 1472 [some (.ref b), some (.ref x), some (.ref (x + 117)), some (.int (nI (6 * k)))] [.int v, .int v] υ Q
  refine Ev.icmp_eq (tgt := 2095) rfl (by decide) (fun _ => ?_) (fun c => absurd rfl c)
  exact hnext υ T1 I1 mc ms a1 a2 hI1
/- lonely -/
set_option maxRecDepth 16384 in
theorem law_29 (hA : (b, 0, L, xs) ∈ gA Γ) (hL : L ≤ 3072) (hk : 6 * k + 6 ≤ L) (hc : cells + 70 ≤ 600000) (hs : slots + 4300 ≤ 7302250) {σ : ex_S} {T : Tol} {I : Nat → Option Tol} (h : Inv σ x T I) (hnext : ∀ (τ : ex_S) (T1 : Tol) (I1 : Nat → Option Tol) (mc ms : Nat), mc ≤ 70 → ms ≤ 4300 → Inv τ x T1 I1 → Ev Γ 600000 7302250 m_Law_law (cells + mc) (slots + ms) 2095 [some (.ref b), some (.ref x), some (.ref (x + 117)), some (.int (nI (6 * k)))] [] τ Q) : Ev Γ 600000 7302250 m_Law_law cells slots 1477 [some (.ref b), some (.ref x), some (.ref (x + 117)), some (.int (nI (6 * k)))] [] σ Q := by
  refine Ev.aload_n rfl rfl ?_
  refine Ev.aload_n rfl rfl ?_
  refine Ev.iload_n rfl rfl ?_
  refine Ev.iconst (v := 1) rfl (by decide) ?_
  refine Ev.iadd rfl ?_
  refine Ev.ialdSN (k := 6 * k + 1) rfl hA (nq_add (a := 6 * k) (b := 1) rfl rfl) ⟨by omega, by omega⟩ ?_
  obtain ⟨v, T1, I1, ⟨mc, ms, a1, a2, hC⟩, hM1⟩ := pr_lonely (Γ := Γ) (x := x) (xs (6 * k + 1)) σ T I h
  refine Ev.callV (as := [.int (xs (6 * k + 1))]) (st := []) rfl rfl h.1.1 rfl rfl rfl rfl (Nat.le_of_ble_eq_true rfl) ⟨by omega, by omega⟩ hC (fun r τ q => ?_)
  obtain ⟨rfl, hMid⟩ := q
  obtain ⟨g, A, hMM, -⟩ := hMid.m
  change Ev Γ 600000 7302250 m_Law_law (cells + mc) (slots + ms) 1486 [some (.ref b), some (.ref x), some (.ref (x + 117)), some (.int (nI (6 * k)))] [.int v] τ Q
  refine Ev.aload_n rfl rfl ?_
  refine Ev.aload_n rfl rfl ?_
  refine Ev.iload_n rfl rfl ?_
  refine Ev.iconst (v := 1) rfl (by decide) ?_
  refine Ev.iadd rfl ?_
  refine Ev.ialdSN (k := 6 * k + 1) rfl hA (nq_add (a := 6 * k) (b := 1) rfl rfl) ⟨by omega, by omega⟩ ?_
  refine Ev.callV (mc := 0) (ms := 0) (as := [.int (xs (6 * k + 1))]) (st := [.int v]) rfl rfl hMM.1 rfl rfl rfl rfl (Nat.le_of_ble_eq_true rfl) ⟨by omega, by omega⟩ (hM1 τ hMid) (fun r υ q => ?_)
  obtain ⟨rfl, hI1⟩ := q
  change Ev Γ 600000 7302250 m_Law_law (cells + mc) (slots + ms) 1495 [some (.ref b), some (.ref x), some (.ref (x + 117)), some (.int (nI (6 * k)))] [.int v, .int v] υ Q
  refine Ev.icmp_eq (tgt := 2095) rfl (by decide) (fun _ => ?_) (fun c => absurd rfl c)
  exact hnext υ T1 I1 mc ms a1 a2 hI1
end
end
