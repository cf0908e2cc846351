/-! The law: its cases 0 to 14. -/
noncomputable section
section
variable {Γ : ex_G} {b L x k cells slots : Nat} {xs : Nat → Int32} {Q : Option Value → ex_S → Prop}
/- feed -/
set_option maxRecDepth 16384 in
theorem law_0 (hA : (b, 0, L, xs) ∈ gA Γ) (hL : L ≤ 3072) (hk : 6 * k + 6 ≤ L) (hc : cells + 70 ≤ 600000) (hs : slots + 4300 ≤ 7302250) {σ : ex_S} {T : Tol} {I : Nat → Option Tol} (h : Inv σ x T I) (hnext : ∀ (τ : ex_S) (T1 : Tol) (I1 : Nat → Option Tol) (mc ms : Nat), mc ≤ 70 → ms ≤ 4300 → Inv τ x T1 I1 → Ev Γ 600000 7302250 m_Law_law (cells + mc) (slots + ms) 2095 [some (.ref b), some (.ref x), some (.ref (x + 117)), some (.int (nI (6 * k)))] [] τ Q) : Ev Γ 600000 7302250 m_Law_law cells slots 228 [some (.ref b), some (.ref x), some (.ref (x + 117)), some (.int (nI (6 * k)))] [] σ Q := by
  refine Ev.aload_n rfl rfl ?_
  refine Ev.aload_n rfl rfl ?_
  refine Ev.iload_n rfl rfl ?_
  refine Ev.iconst (v := 1) rfl (by decide) ?_
  refine Ev.iadd rfl ?_
  refine Ev.ialdSN (k := 6 * k + 1) rfl hA (nq_add (a := 6 * k) (b := 1) rfl rfl) ⟨by omega, by omega⟩ ?_
  refine Ev.aload_n rfl rfl ?_
  refine Ev.iload_n rfl rfl ?_
  refine Ev.iconst (v := 2) rfl (by decide) ?_
  refine Ev.iadd rfl ?_
  refine Ev.ialdSN (k := 6 * k + 2) rfl hA (nq_add (a := 6 * k) (b := 2) rfl rfl) ⟨by omega, by omega⟩ ?_
  refine Ev.aload_n rfl rfl ?_
  refine Ev.iload_n rfl rfl ?_
  refine Ev.iconst (v := 3) rfl (by decide) ?_
  refine Ev.iadd rfl ?_
  refine Ev.ialdSN (k := 6 * k + 3) rfl hA (nq_add (a := 6 * k) (b := 3) rfl rfl) ⟨by omega, by omega⟩ ?_
  refine Ev.aload_n rfl rfl ?_
  refine Ev.iload_n rfl rfl ?_
  refine Ev.iconst (v := 4) rfl (by decide) ?_
  refine Ev.iadd rfl ?_
  refine Ev.ialdSN (k := 6 * k + 4) rfl hA (nq_add (a := 6 * k) (b := 4) rfl rfl) ⟨by omega, by omega⟩ ?_
  refine Ev.aload_n rfl rfl ?_
  refine Ev.iload_n rfl rfl ?_
  refine Ev.iconst (v := 5) rfl (by decide) ?_
  refine Ev.iadd rfl ?_
  refine Ev.ialdSN (k := 6 * k + 5) rfl hA (nq_add (a := 6 * k) (b := 5) rfl rfl) ⟨by omega, by omega⟩ ?_
  obtain ⟨v, T1, I1, ⟨mc, ms, a1, a2, hC⟩, hM1⟩ := pr_feed (Γ := Γ) (x := x) (xs (6 * k + 1)) (xs (6 * k + 2)) (xs (6 * k + 3)) (xs (6 * k + 4)) (xs (6 * k + 5)) σ T I h
  refine Ev.callV (as := [.int (xs (6 * k + 1)), .int (xs (6 * k + 2)), .int (xs (6 * k + 3)), .int (xs (6 * k + 4)), .int (xs (6 * k + 5))]) (st := []) rfl rfl h.1.1 rfl rfl rfl rfl (Nat.le_of_ble_eq_true rfl) ⟨by omega, by omega⟩ hC (fun r τ q => ?_)
  obtain ⟨rfl, hMid⟩ := q
  obtain ⟨g, A, hMM, -⟩ := hMid.m
  change Ev Γ 600000 7302250 m_Law_law (cells + mc) (slots + ms) 257 [some (.ref b), some (.ref x), some (.ref (x + 117)), some (.int (nI (6 * k)))] [.int v] τ Q
  refine Ev.aload_n rfl rfl ?_
  refine Ev.aload_n rfl rfl ?_
  refine Ev.iload_n rfl rfl ?_
  refine Ev.iconst (v := 1) rfl (by decide) ?_
  refine Ev.iadd rfl ?_
  refine Ev.ialdSN (k := 6 * k + 1) rfl hA (nq_add (a := 6 * k) (b := 1) rfl rfl) ⟨by omega, by omega⟩ ?_
  refine Ev.aload_n rfl rfl ?_
  refine Ev.iload_n rfl rfl ?_
  refine Ev.iconst (v := 2) rfl (by decide) ?_
  refine Ev.iadd rfl ?_
  refine Ev.ialdSN (k := 6 * k + 2) rfl hA (nq_add (a := 6 * k) (b := 2) rfl rfl) ⟨by omega, by omega⟩ ?_
  refine Ev.aload_n rfl rfl ?_
  refine Ev.iload_n rfl rfl ?_
  refine Ev.iconst (v := 3) rfl (by decide) ?_
  refine Ev.iadd rfl ?_
  refine Ev.ialdSN (k := 6 * k + 3) rfl hA (nq_add (a := 6 * k) (b := 3) rfl rfl) ⟨by omega, by omega⟩ ?_
  refine Ev.aload_n rfl rfl ?_
  refine Ev.iload_n rfl rfl ?_
  refine Ev.iconst (v := 4) rfl (by decide) ?_
  refine Ev.iadd rfl ?_
  refine Ev.ialdSN (k := 6 * k + 4) rfl hA (nq_add (a := 6 * k) (b := 4) rfl rfl) ⟨by omega, by omega⟩ ?_
  refine Ev.aload_n rfl rfl ?_
  refine Ev.iload_n rfl rfl ?_
  refine Ev.iconst (v := 5) rfl (by decide) ?_
  refine Ev.iadd rfl ?_
  refine Ev.ialdSN (k := 6 * k + 5) rfl hA (nq_add (a := 6 * k) (b := 5) rfl rfl) ⟨by omega, by omega⟩ ?_
  refine Ev.callV (mc := 0) (ms := 0) (as := [.int (xs (6 * k + 1)), .int (xs (6 * k + 2)), .int (xs (6 * k + 3)), .int (xs (6 * k + 4)), .int (xs (6 * k + 5))]) (st := [.int v]) rfl rfl hMM.1 rfl rfl rfl rfl (Nat.le_of_ble_eq_true rfl) ⟨by omega, by omega⟩ (hM1 τ hMid) (fun r υ q => ?_)
  obtain ⟨rfl, hI1⟩ := q
  change Ev Γ 600000 7302250 m_Law_law (cells + mc) (slots + ms) 286 [some (.ref b), some (.ref x), some (.ref (x + 117)), some (.int (nI (6 * k)))] [.int v, .int v] υ Q
  refine Ev.icmp_eq (tgt := 2095) rfl (by decide) (fun _ => ?_) (fun c => absurd rfl c)
  exact hnext υ T1 I1 mc ms a1 a2 hI1
/- end -/
set_option maxRecDepth 16384 in
theorem law_1 (hA : (b, 0, L, xs) ∈ gA Γ) (hL : L ≤ 3072) (hk : 6 * k + 6 ≤ L) (hc : cells + 70 ≤ 600000) (hs : slots + 4300 ≤ 7302250) {σ : ex_S} {T : Tol} {I : Nat → Option Tol} (h : Inv σ x T I) (hnext : ∀ (τ : ex_S) (T1 : Tol) (I1 : Nat → Option Tol) (mc ms : Nat), mc ≤ 70 → ms ≤ 4300 → Inv τ x T1 I1 → Ev Γ 600000 7302250 m_Law_law (cells + mc) (slots + ms) 2095 [some (.ref b), some (.ref x), some (.ref (x + 117)), some (.int (nI (6 * k)))] [] τ Q) : Ev Γ 600000 7302250 m_Law_law cells slots 291 [some (.ref b), some (.ref x), some (.ref (x + 117)), some (.int (nI (6 * k)))] [] σ Q := by
  refine Ev.aload_n rfl rfl ?_
  refine Ev.aload_n rfl rfl ?_
  refine Ev.iload_n rfl rfl ?_
  refine Ev.iconst (v := 1) rfl (by decide) ?_
  refine Ev.iadd rfl ?_
  refine Ev.ialdSN (k := 6 * k + 1) rfl hA (nq_add (a := 6 * k) (b := 1) rfl rfl) ⟨by omega, by omega⟩ ?_
  obtain ⟨v, T1, I1, ⟨mc, ms, a1, a2, hC⟩, hM1⟩ := pr_end (Γ := Γ) (x := x) (xs (6 * k + 1)) σ T I h
  refine Ev.callV (as := [.int (xs (6 * k + 1))]) (st := []) rfl rfl h.1.1 rfl rfl rfl rfl (Nat.le_of_ble_eq_true rfl) ⟨by omega, by omega⟩ hC (fun r τ q => ?_)
  obtain ⟨rfl, hMid⟩ := q
  obtain ⟨g, A, hMM, -⟩ := hMid.m
  change Ev Γ 600000 7302250 m_Law_law (cells + mc) (slots + ms) 300 [some (.ref b), some (.ref x), some (.ref (x + 117)), some (.int (nI (6 * k)))] [.int v] τ Q
  refine Ev.aload_n rfl rfl ?_
  refine Ev.aload_n rfl rfl ?_
  refine Ev.iload_n rfl rfl ?_
  refine Ev.iconst (v := 1) rfl (by decide) ?_
  refine Ev.iadd rfl ?_
  refine Ev.ialdSN (k := 6 * k + 1) rfl hA (nq_add (a := 6 * k) (b := 1) rfl rfl) ⟨by omega, by omega⟩ ?_
  refine Ev.callV (mc := 0) (ms := 0) (as := [.int (xs (6 * k + 1))]) (st := [.int v]) rfl rfl hMM.1 rfl rfl rfl rfl (Nat.le_of_ble_eq_true rfl) ⟨by omega, by omega⟩ (hM1 τ hMid) (fun r υ q => ?_)
  obtain ⟨rfl, hI1⟩ := q
  change Ev Γ 600000 7302250 m_Law_law (cells + mc) (slots + ms) 309 [some (.ref b), some (.ref x), some (.ref (x + 117)), some (.int (nI (6 * k)))] [.int v, .int v] υ Q
  refine Ev.icmp_eq (tgt := 2095) rfl (by decide) (fun _ => ?_) (fun c => absurd rfl c)
  exact hnext υ T1 I1 mc ms a1 a2 hI1
/- fault -/
set_option maxRecDepth 16384 in
theorem law_3 (hA : (b, 0, L, xs) ∈ gA Γ) (hL : L ≤ 3072) (hk : 6 * k + 6 ≤ L) (hc : cells + 70 ≤ 600000) (hs : slots + 4300 ≤ 7302250) {σ : ex_S} {T : Tol} {I : Nat → Option Tol} (h : Inv σ x T I) (hnext : ∀ (τ : ex_S) (T1 : Tol) (I1 : Nat → Option Tol) (mc ms : Nat), mc ≤ 70 → ms ≤ 4300 → Inv τ x T1 I1 → Ev Γ 600000 7302250 m_Law_law (cells + mc) (slots + ms) 2095 [some (.ref b), some (.ref x), some (.ref (x + 117)), some (.int (nI (6 * k)))] [] τ Q) : Ev Γ 600000 7302250 m_Law_law cells slots 347 [some (.ref b), some (.ref x), some (.ref (x + 117)), some (.int (nI (6 * k)))] [] σ Q := by
  refine Ev.aload_n rfl rfl ?_
  refine Ev.aload_n rfl rfl ?_
  refine Ev.iload_n rfl rfl ?_
  refine Ev.iconst (v := 1) rfl (by decide) ?_
  refine Ev.iadd rfl ?_
  refine Ev.ialdSN (k := 6 * k + 1) rfl hA (nq_add (a := 6 * k) (b := 1) rfl rfl) ⟨by omega, by omega⟩ ?_
  obtain ⟨v, T1, I1, ⟨mc, ms, a1, a2, hC⟩, hM1⟩ := pr_fault (Γ := Γ) (x := x) (xs (6 * k + 1)) σ T I h
  refine Ev.callV (as := [.int (xs (6 * k + 1))]) (st := []) rfl rfl h.1.1 rfl rfl rfl rfl (Nat.le_of_ble_eq_true rfl) ⟨by omega, by omega⟩ hC (fun r τ q => ?_)
  obtain ⟨rfl, hMid⟩ := q
  obtain ⟨g, A, hMM, -⟩ := hMid.m
  change Ev Γ 600000 7302250 m_Law_law (cells + mc) (slots + ms) 356 [some (.ref b), some (.ref x), some (.ref (x + 117)), some (.int (nI (6 * k)))] [.int v] τ Q
  refine Ev.aload_n rfl rfl ?_
  refine Ev.aload_n rfl rfl ?_
  refine Ev.iload_n rfl rfl ?_
  refine Ev.iconst (v := 1) rfl (by decide) ?_
  refine Ev.iadd rfl ?_
  refine Ev.ialdSN (k := 6 * k + 1) rfl hA (nq_add (a := 6 * k) (b := 1) rfl rfl) ⟨by omega, by omega⟩ ?_
  refine Ev.callV (mc := 0) (ms := 0) (as := [.int (xs (6 * k + 1))]) (st := [.int v]) rfl rfl hMM.1 rfl rfl rfl rfl (Nat.le_of_ble_eq_true rfl) ⟨by omega, by omega⟩ (hM1 τ hMid) (fun r υ q => ?_)
  obtain ⟨rfl, hI1⟩ := q
  change Ev Γ 600000 7302250 m_Law_law (cells + mc) (slots + ms) 365 [some (.ref b), some (.ref x), some (.ref (x + 117)), some (.int (nI (6 * k)))] [.int v, .int v] υ Q
  refine Ev.icmp_eq (tgt := 2095) rfl (by decide) (fun _ => ?_) (fun c => absurd rfl c)
  exact hnext υ T1 I1 mc ms a1 a2 hI1
/- about -/
set_option maxRecDepth 16384 in
theorem law_4 (hA : (b, 0, L, xs) ∈ gA Γ) (hL : L ≤ 3072) (hk : 6 * k + 6 ≤ L) (hc : cells + 70 ≤ 600000) (hs : slots + 4300 ≤ 7302250) {σ : ex_S} {T : Tol} {I : Nat → Option Tol} (h : Inv σ x T I) (hnext : ∀ (τ : ex_S) (T1 : Tol) (I1 : Nat → Option Tol) (mc ms : Nat), mc ≤ 70 → ms ≤ 4300 → Inv τ x T1 I1 → Ev Γ 600000 7302250 m_Law_law (cells + mc) (slots + ms) 2095 [some (.ref b), some (.ref x), some (.ref (x + 117)), some (.int (nI (6 * k)))] [] τ Q) : Ev Γ 600000 7302250 m_Law_law cells slots 370 [some (.ref b), some (.ref x), some (.ref (x + 117)), some (.int (nI (6 * k)))] [] σ Q := by
  refine Ev.aload_n rfl rfl ?_
  refine Ev.aload_n rfl rfl ?_
  refine Ev.iload_n rfl rfl ?_
  refine Ev.iconst (v := 1) rfl (by decide) ?_
  refine Ev.iadd rfl ?_
  refine Ev.ialdSN (k := 6 * k + 1) rfl hA (nq_add (a := 6 * k) (b := 1) rfl rfl) ⟨by omega, by omega⟩ ?_
  refine Ev.aload_n rfl rfl ?_
  refine Ev.iload_n rfl rfl ?_
  refine Ev.iconst (v := 2) rfl (by decide) ?_
  refine Ev.iadd rfl ?_
  refine Ev.ialdSN (k := 6 * k + 2) rfl hA (nq_add (a := 6 * k) (b := 2) rfl rfl) ⟨by omega, by omega⟩ ?_
  obtain ⟨v, T1, I1, ⟨mc, ms, a1, a2, hC⟩, hM1⟩ := pr_about (Γ := Γ) (x := x) (xs (6 * k + 1)) (xs (6 * k + 2)) σ T I h
  refine Ev.callV (as := [.int (xs (6 * k + 1)), .int (xs (6 * k + 2))]) (st := []) rfl rfl h.1.1 rfl rfl rfl rfl (Nat.le_of_ble_eq_true rfl) ⟨by omega, by omega⟩ hC (fun r τ q => ?_)
  obtain ⟨rfl, hMid⟩ := q
  obtain ⟨g, A, hMM, -⟩ := hMid.m
  change Ev Γ 600000 7302250 m_Law_law (cells + mc) (slots + ms) 384 [some (.ref b), some (.ref x), some (.ref (x + 117)), some (.int (nI (6 * k)))] [.int v] τ Q
  refine Ev.aload_n rfl rfl ?_
  refine Ev.aload_n rfl rfl ?_
  refine Ev.iload_n rfl rfl ?_
  refine Ev.iconst (v := 1) rfl (by decide) ?_
  refine Ev.iadd rfl ?_
  refine Ev.ialdSN (k := 6 * k + 1) rfl hA (nq_add (a := 6 * k) (b := 1) rfl rfl) ⟨by omega, by omega⟩ ?_
  refine Ev.aload_n rfl rfl ?_
  refine Ev.iload_n rfl rfl ?_
  refine Ev.iconst (v := 2) rfl (by decide) ?_
  refine Ev.iadd rfl ?_
  refine Ev.ialdSN (k := 6 * k + 2) rfl hA (nq_add (a := 6 * k) (b := 2) rfl rfl) ⟨by omega, by omega⟩ ?_
  refine Ev.callV (mc := 0) (ms := 0) (as := [.int (xs (6 * k + 1)), .int (xs (6 * k + 2))]) (st := [.int v]) rfl rfl hMM.1 rfl rfl rfl rfl (Nat.le_of_ble_eq_true rfl) ⟨by omega, by omega⟩ (hM1 τ hMid) (fun r υ q => ?_)
  obtain ⟨rfl, hI1⟩ := q
  change Ev Γ 600000 7302250 m_Law_law (cells + mc) (slots + ms) 398 [some (.ref b), some (.ref x), some (.ref (x + 117)), some (.int (nI (6 * k)))] [.int v, .int v] υ Q
  refine Ev.icmp_eq (tgt := 2095) rfl (by decide) (fun _ => ?_) (fun c => absurd rfl c)
  exact hnext υ T1 I1 mc ms a1 a2 hI1
/- learner -/
set_option maxRecDepth 16384 in
theorem law_5 (hA : (b, 0, L, xs) ∈ gA Γ) (hL : L ≤ 3072) (hk : 6 * k + 6 ≤ L) (hc : cells + 70 ≤ 600000) (hs : slots + 4300 ≤ 7302250) {σ : ex_S} {T : Tol} {I : Nat → Option Tol} (h : Inv σ x T I) (hnext : ∀ (τ : ex_S) (T1 : Tol) (I1 : Nat → Option Tol) (mc ms : Nat), mc ≤ 70 → ms ≤ 4300 → Inv τ x T1 I1 → Ev Γ 600000 7302250 m_Law_law (cells + mc) (slots + ms) 2095 [some (.ref b), some (.ref x), some (.ref (x + 117)), some (.int (nI (6 * k)))] [] τ Q) : Ev Γ 600000 7302250 m_Law_law cells slots 403 [some (.ref b), some (.ref x), some (.ref (x + 117)), some (.int (nI (6 * k)))] [] σ Q := by
  refine Ev.aload_n rfl rfl ?_
  refine Ev.aload_n rfl rfl ?_
  refine Ev.iload_n rfl rfl ?_
  refine Ev.iconst (v := 1) rfl (by decide) ?_
  refine Ev.iadd rfl ?_
  refine Ev.ialdSN (k := 6 * k + 1) rfl hA (nq_add (a := 6 * k) (b := 1) rfl rfl) ⟨by omega, by omega⟩ ?_
  refine Ev.aload_n rfl rfl ?_
  refine Ev.iload_n rfl rfl ?_
  refine Ev.iconst (v := 2) rfl (by decide) ?_
  refine Ev.iadd rfl ?_
  refine Ev.ialdSN (k := 6 * k + 2) rfl hA (nq_add (a := 6 * k) (b := 2) rfl rfl) ⟨by omega, by omega⟩ ?_
  refine Ev.aload_n rfl rfl ?_
  refine Ev.iload_n rfl rfl ?_
  refine Ev.iconst (v := 3) rfl (by decide) ?_
  refine Ev.iadd rfl ?_
  refine Ev.ialdSN (k := 6 * k + 3) rfl hA (nq_add (a := 6 * k) (b := 3) rfl rfl) ⟨by omega, by omega⟩ ?_
  obtain ⟨v, T1, I1, ⟨mc, ms, a1, a2, hC⟩, hM1⟩ := pr_learner (Γ := Γ) (x := x) (xs (6 * k + 1)) (xs (6 * k + 2)) (xs (6 * k + 3)) σ T I h
  refine Ev.callV (as := [.int (xs (6 * k + 1)), .int (xs (6 * k + 2)), .int (xs (6 * k + 3))]) (st := []) rfl rfl h.1.1 rfl rfl rfl rfl (Nat.le_of_ble_eq_true rfl) ⟨by omega, by omega⟩ hC (fun r τ q => ?_)
  obtain ⟨rfl, hMid⟩ := q
  obtain ⟨g, A, hMM, -⟩ := hMid.m
  change Ev Γ 600000 7302250 m_Law_law (cells + mc) (slots + ms) 422 [some (.ref b), some (.ref x), some (.ref (x + 117)), some (.int (nI (6 * k)))] [.int v] τ Q
  refine Ev.aload_n rfl rfl ?_
  refine Ev.aload_n rfl rfl ?_
  refine Ev.iload_n rfl rfl ?_
  refine Ev.iconst (v := 1) rfl (by decide) ?_
  refine Ev.iadd rfl ?_
  refine Ev.ialdSN (k := 6 * k + 1) rfl hA (nq_add (a := 6 * k) (b := 1) rfl rfl) ⟨by omega, by omega⟩ ?_
  refine Ev.aload_n rfl rfl ?_
  refine Ev.iload_n rfl rfl ?_
  refine Ev.iconst (v := 2) rfl (by decide) ?_
  refine Ev.iadd rfl ?_
  refine Ev.ialdSN (k := 6 * k + 2) rfl hA (nq_add (a := 6 * k) (b := 2) rfl rfl) ⟨by omega, by omega⟩ ?_
  refine Ev.aload_n rfl rfl ?_
  refine Ev.iload_n rfl rfl ?_
  refine Ev.iconst (v := 3) rfl (by decide) ?_
  refine Ev.iadd rfl ?_
  refine Ev.ialdSN (k := 6 * k + 3) rfl hA (nq_add (a := 6 * k) (b := 3) rfl rfl) ⟨by omega, by omega⟩ ?_
  refine Ev.callV (mc := 0) (ms := 0) (as := [.int (xs (6 * k + 1)), .int (xs (6 * k + 2)), .int (xs (6 * k + 3))]) (st := [.int v]) rfl rfl hMM.1 rfl rfl rfl rfl (Nat.le_of_ble_eq_true rfl) ⟨by omega, by omega⟩ (hM1 τ hMid) (fun r υ q => ?_)
  obtain ⟨rfl, hI1⟩ := q
  change Ev Γ 600000 7302250 m_Law_law (cells + mc) (slots + ms) 441 [some (.ref b), some (.ref x), some (.ref (x + 117)), some (.int (nI (6 * k)))] [.int v, .int v] υ Q
  refine Ev.icmp_eq (tgt := 2095) rfl (by decide) (fun _ => ?_) (fun c => absurd rfl c)
  exact hnext υ T1 I1 mc ms a1 a2 hI1
/- plan -/
set_option maxRecDepth 16384 in
theorem law_6 (hA : (b, 0, L, xs) ∈ gA Γ) (hL : L ≤ 3072) (hk : 6 * k + 6 ≤ L) (hc : cells + 70 ≤ 600000) (hs : slots + 4300 ≤ 7302250) {σ : ex_S} {T : Tol} {I : Nat → Option Tol} (h : Inv σ x T I) (hnext : ∀ (τ : ex_S) (T1 : Tol) (I1 : Nat → Option Tol) (mc ms : Nat), mc ≤ 70 → ms ≤ 4300 → Inv τ x T1 I1 → Ev Γ 600000 7302250 m_Law_law (cells + mc) (slots + ms) 2095 [some (.ref b), some (.ref x), some (.ref (x + 117)), some (.int (nI (6 * k)))] [] τ Q) : Ev Γ 600000 7302250 m_Law_law cells slots 446 [some (.ref b), some (.ref x), some (.ref (x + 117)), some (.int (nI (6 * k)))] [] σ Q := by
  refine Ev.aload_n rfl rfl ?_
  refine Ev.aload_n rfl rfl ?_
  refine Ev.iload_n rfl rfl ?_
  refine Ev.iconst (v := 1) rfl (by decide) ?_
  refine Ev.iadd rfl ?_
  refine Ev.ialdSN (k := 6 * k + 1) rfl hA (nq_add (a := 6 * k) (b := 1) rfl rfl) ⟨by omega, by omega⟩ ?_
  refine Ev.aload_n rfl rfl ?_
  refine Ev.iload_n rfl rfl ?_
  refine Ev.iconst (v := 2) rfl (by decide) ?_
  refine Ev.iadd rfl ?_
  refine Ev.ialdSN (k := 6 * k + 2) rfl hA (nq_add (a := 6 * k) (b := 2) rfl rfl) ⟨by omega, by omega⟩ ?_
  refine Ev.aload_n rfl rfl ?_
  refine Ev.iload_n rfl rfl ?_
  refine Ev.iconst (v := 3) rfl (by decide) ?_
  refine Ev.iadd rfl ?_
  refine Ev.ialdSN (k := 6 * k + 3) rfl hA (nq_add (a := 6 * k) (b := 3) rfl rfl) ⟨by omega, by omega⟩ ?_
  obtain ⟨v, T1, I1, ⟨mc, ms, a1, a2, hC⟩, hM1⟩ := pr_plan (Γ := Γ) (x := x) (xs (6 * k + 1)) (xs (6 * k + 2)) (xs (6 * k + 3)) σ T I h
  refine Ev.callV (as := [.int (xs (6 * k + 1)), .int (xs (6 * k + 2)), .int (xs (6 * k + 3))]) (st := []) rfl rfl h.1.1 rfl rfl rfl rfl (Nat.le_of_ble_eq_true rfl) ⟨by omega, by omega⟩ hC (fun r τ q => ?_)
  obtain ⟨rfl, hMid⟩ := q
  obtain ⟨g, A, hMM, -⟩ := hMid.m
  change Ev Γ 600000 7302250 m_Law_law (cells + mc) (slots + ms) 465 [some (.ref b), some (.ref x), some (.ref (x + 117)), some (.int (nI (6 * k)))] [.int v] τ Q
  refine Ev.aload_n rfl rfl ?_
  refine Ev.aload_n rfl rfl ?_
  refine Ev.iload_n rfl rfl ?_
  refine Ev.iconst (v := 1) rfl (by decide) ?_
  refine Ev.iadd rfl ?_
  refine Ev.ialdSN (k := 6 * k + 1) rfl hA (nq_add (a := 6 * k) (b := 1) rfl rfl) ⟨by omega, by omega⟩ ?_
  refine Ev.aload_n rfl rfl ?_
  refine Ev.iload_n rfl rfl ?_
  refine Ev.iconst (v := 2) rfl (by decide) ?_
  refine Ev.iadd rfl ?_
  refine Ev.ialdSN (k := 6 * k + 2) rfl hA (nq_add (a := 6 * k) (b := 2) rfl rfl) ⟨by omega, by omega⟩ ?_
  refine Ev.aload_n rfl rfl ?_
  refine Ev.iload_n rfl rfl ?_
  refine Ev.iconst (v := 3) rfl (by decide) ?_
  refine Ev.iadd rfl ?_
  refine Ev.ialdSN (k := 6 * k + 3) rfl hA (nq_add (a := 6 * k) (b := 3) rfl rfl) ⟨by omega, by omega⟩ ?_
  refine Ev.callV (mc := 0) (ms := 0) (as := [.int (xs (6 * k + 1)), .int (xs (6 * k + 2)), .int (xs (6 * k + 3))]) (st := [.int v]) rfl rfl hMM.1 rfl rfl rfl rfl (Nat.le_of_ble_eq_true rfl) ⟨by omega, by omega⟩ (hM1 τ hMid) (fun r υ q => ?_)
  obtain ⟨rfl, hI1⟩ := q
  change Ev Γ 600000 7302250 m_Law_law (cells + mc) (slots + ms) 484 [some (.ref b), some (.ref x), some (.ref (x + 117)), some (.int (nI (6 * k)))] [.int v, .int v] υ Q
  refine Ev.icmp_eq (tgt := 2095) rfl (by decide) (fun _ => ?_) (fun c => absurd rfl c)
  exact hnext υ T1 I1 mc ms a1 a2 hI1
/- goes -/
set_option maxRecDepth 16384 in
theorem law_7 (hA : (b, 0, L, xs) ∈ gA Γ) (hL : L ≤ 3072) (hk : 6 * k + 6 ≤ L) (hc : cells + 70 ≤ 600000) (hs : slots + 4300 ≤ 7302250) {σ : ex_S} {T : Tol} {I : Nat → Option Tol} (h : Inv σ x T I) (hnext : ∀ (τ : ex_S) (T1 : Tol) (I1 : Nat → Option Tol) (mc ms : Nat), mc ≤ 70 → ms ≤ 4300 → Inv τ x T1 I1 → Ev Γ 600000 7302250 m_Law_law (cells + mc) (slots + ms) 2095 [some (.ref b), some (.ref x), some (.ref (x + 117)), some (.int (nI (6 * k)))] [] τ Q) : Ev Γ 600000 7302250 m_Law_law cells slots 489 [some (.ref b), some (.ref x), some (.ref (x + 117)), some (.int (nI (6 * k)))] [] σ Q := by
  refine Ev.aload_n rfl rfl ?_
  refine Ev.aload_n rfl rfl ?_
  refine Ev.iload_n rfl rfl ?_
  refine Ev.iconst (v := 1) rfl (by decide) ?_
  refine Ev.iadd rfl ?_
  refine Ev.ialdSN (k := 6 * k + 1) rfl hA (nq_add (a := 6 * k) (b := 1) rfl rfl) ⟨by omega, by omega⟩ ?_
  refine Ev.aload_n rfl rfl ?_
  refine Ev.iload_n rfl rfl ?_
  refine Ev.iconst (v := 2) rfl (by decide) ?_
  refine Ev.iadd rfl ?_
  refine Ev.ialdSN (k := 6 * k + 2) rfl hA (nq_add (a := 6 * k) (b := 2) rfl rfl) ⟨by omega, by omega⟩ ?_
  obtain ⟨v, T1, I1, ⟨mc, ms, a1, a2, hC⟩, hM1⟩ := pr_goes (Γ := Γ) (x := x) (xs (6 * k + 1)) (xs (6 * k + 2)) σ T I h
  refine Ev.callV (as := [.int (xs (6 * k + 1)), .int (xs (6 * k + 2))]) (st := []) rfl rfl h.1.1 rfl rfl rfl rfl (Nat.le_of_ble_eq_true rfl) ⟨by omega, by omega⟩ hC (fun r τ q => ?_)
  obtain ⟨rfl, hMid⟩ := q
  obtain ⟨g, A, hMM, -⟩ := hMid.m
  change Ev Γ 600000 7302250 m_Law_law (cells + mc) (slots + ms) 503 [some (.ref b), some (.ref x), some (.ref (x + 117)), some (.int (nI (6 * k)))] [.int v] τ Q
  refine Ev.aload_n rfl rfl ?_
  refine Ev.aload_n rfl rfl ?_
  refine Ev.iload_n rfl rfl ?_
  refine Ev.iconst (v := 1) rfl (by decide) ?_
  refine Ev.iadd rfl ?_
  refine Ev.ialdSN (k := 6 * k + 1) rfl hA (nq_add (a := 6 * k) (b := 1) rfl rfl) ⟨by omega, by omega⟩ ?_
  refine Ev.aload_n rfl rfl ?_
  refine Ev.iload_n rfl rfl ?_
  refine Ev.iconst (v := 2) rfl (by decide) ?_
  refine Ev.iadd rfl ?_
  refine Ev.ialdSN (k := 6 * k + 2) rfl hA (nq_add (a := 6 * k) (b := 2) rfl rfl) ⟨by omega, by omega⟩ ?_
  refine Ev.callV (mc := 0) (ms := 0) (as := [.int (xs (6 * k + 1)), .int (xs (6 * k + 2))]) (st := [.int v]) rfl rfl hMM.1 rfl rfl rfl rfl (Nat.le_of_ble_eq_true rfl) ⟨by omega, by omega⟩ (hM1 τ hMid) (fun r υ q => ?_)
  obtain ⟨rfl, hI1⟩ := q
  change Ev Γ 600000 7302250 m_Law_law (cells + mc) (slots + ms) 517 [some (.ref b), some (.ref x), some (.ref (x + 117)), some (.int (nI (6 * k)))] [.int v, .int v] υ Q
  refine Ev.icmp_eq (tgt := 2095) rfl (by decide) (fun _ => ?_) (fun c => absurd rfl c)
  exact hnext υ T1 I1 mc ms a1 a2 hI1
/- sit -/
set_option maxRecDepth 16384 in
theorem law_8 (hA : (b, 0, L, xs) ∈ gA Γ) (hL : L ≤ 3072) (hk : 6 * k + 6 ≤ L) (hc : cells + 70 ≤ 600000) (hs : slots + 4300 ≤ 7302250) {σ : ex_S} {T : Tol} {I : Nat → Option Tol} (h : Inv σ x T I) (hnext : ∀ (τ : ex_S) (T1 : Tol) (I1 : Nat → Option Tol) (mc ms : Nat), mc ≤ 70 → ms ≤ 4300 → Inv τ x T1 I1 → Ev Γ 600000 7302250 m_Law_law (cells + mc) (slots + ms) 2095 [some (.ref b), some (.ref x), some (.ref (x + 117)), some (.int (nI (6 * k)))] [] τ Q) : Ev Γ 600000 7302250 m_Law_law cells slots 522 [some (.ref b), some (.ref x), some (.ref (x + 117)), some (.int (nI (6 * k)))] [] σ Q := by
  by_cases s4 : xs (6 * k + 4) = 0
  · skip
    refine Ev.aload_n rfl rfl ?_
    refine Ev.aload_n rfl rfl ?_
    refine Ev.iload_n rfl rfl ?_
    refine Ev.iconst (v := 1) rfl (by decide) ?_
    refine Ev.iadd rfl ?_
    refine Ev.ialdSN (k := 6 * k + 1) rfl hA (nq_add (a := 6 * k) (b := 1) rfl rfl) ⟨by omega, by omega⟩ ?_
    refine Ev.aload_n rfl rfl ?_
    refine Ev.iload_n rfl rfl ?_
    refine Ev.iconst (v := 2) rfl (by decide) ?_
    refine Ev.iadd rfl ?_
    refine Ev.ialdSN (k := 6 * k + 2) rfl hA (nq_add (a := 6 * k) (b := 2) rfl rfl) ⟨by omega, by omega⟩ ?_
    refine Ev.aload_n rfl rfl ?_
    refine Ev.iload_n rfl rfl ?_
    refine Ev.iconst (v := 3) rfl (by decide) ?_
    refine Ev.iadd rfl ?_
    refine Ev.ialdSN (k := 6 * k + 3) rfl hA (nq_add (a := 6 * k) (b := 3) rfl rfl) ⟨by omega, by omega⟩ ?_
    refine Ev.aload_n rfl rfl ?_
    refine Ev.iload_n rfl rfl ?_
    refine Ev.iconst (v := 4) rfl (by decide) ?_
    refine Ev.iadd rfl ?_
    refine Ev.ialdSN (k := 6 * k + 4) rfl hA (nq_add (a := 6 * k) (b := 4) rfl rfl) ⟨by omega, by omega⟩ ?_
    refine Ev.if_eq (tgt := 550) rfl (by decide) (fun _ => ?_) (fun c => absurd s4 c)
    refine Ev.iconst (v := 0) rfl (by decide) ?_
    obtain ⟨v, T1, I1, ⟨mc, ms, a1, a2, hC⟩, hM1⟩ := pr_sit (Γ := Γ) (x := x) (xs (6 * k + 1)) (xs (6 * k + 2)) (xs (6 * k + 3)) 0 (Or.inl rfl) σ T I h
    refine Ev.callV (as := [.int (xs (6 * k + 1)), .int (xs (6 * k + 2)), .int (xs (6 * k + 3)), .int 0]) (st := []) rfl rfl h.1.1 rfl rfl rfl rfl (Nat.le_of_ble_eq_true rfl) ⟨by omega, by omega⟩ hC (fun r τ q => ?_)
    obtain ⟨rfl, hMid⟩ := q
    obtain ⟨g, A, hMM, -⟩ := hMid.m
    change Ev Γ 600000 7302250 m_Law_law (cells + mc) (slots + ms) 554 [some (.ref b), some (.ref x), some (.ref (x + 117)), some (.int (nI (6 * k)))] [.int v] τ Q
    refine Ev.aload_n rfl rfl ?_
    refine Ev.aload_n rfl rfl ?_
    refine Ev.iload_n rfl rfl ?_
    refine Ev.iconst (v := 1) rfl (by decide) ?_
    refine Ev.iadd rfl ?_
    refine Ev.ialdSN (k := 6 * k + 1) rfl hA (nq_add (a := 6 * k) (b := 1) rfl rfl) ⟨by omega, by omega⟩ ?_
    refine Ev.aload_n rfl rfl ?_
    refine Ev.iload_n rfl rfl ?_
    refine Ev.iconst (v := 2) rfl (by decide) ?_
    refine Ev.iadd rfl ?_
    refine Ev.ialdSN (k := 6 * k + 2) rfl hA (nq_add (a := 6 * k) (b := 2) rfl rfl) ⟨by omega, by omega⟩ ?_
    refine Ev.aload_n rfl rfl ?_
    refine Ev.iload_n rfl rfl ?_
    refine Ev.iconst (v := 3) rfl (by decide) ?_
    refine Ev.iadd rfl ?_
    refine Ev.ialdSN (k := 6 * k + 3) rfl hA (nq_add (a := 6 * k) (b := 3) rfl rfl) ⟨by omega, by omega⟩ ?_
    refine Ev.aload_n rfl rfl ?_
    refine Ev.iload_n rfl rfl ?_
    refine Ev.iconst (v := 4) rfl (by decide) ?_
    refine Ev.iadd rfl ?_
    refine Ev.ialdSN (k := 6 * k + 4) rfl hA (nq_add (a := 6 * k) (b := 4) rfl rfl) ⟨by omega, by omega⟩ ?_
    refine Ev.if_eq (tgt := 582) rfl (by decide) (fun _ => ?_) (fun c => absurd s4 c)
    refine Ev.iconst (v := 0) rfl (by decide) ?_
    refine Ev.callV (mc := 0) (ms := 0) (as := [.int (xs (6 * k + 1)), .int (xs (6 * k + 2)), .int (xs (6 * k + 3)), .int 0]) (st := [.int v]) rfl rfl hMM.1 rfl rfl rfl rfl (Nat.le_of_ble_eq_true rfl) ⟨by omega, by omega⟩ (hM1 τ hMid) (fun r υ q => ?_)
    obtain ⟨rfl, hI1⟩ := q
    change Ev Γ 600000 7302250 m_Law_law (cells + mc) (slots + ms) 586 [some (.ref b), some (.ref x), some (.ref (x + 117)), some (.int (nI (6 * k)))] [.int v, .int v] υ Q
    refine Ev.icmp_eq (tgt := 2095) rfl (by decide) (fun _ => ?_) (fun c => absurd rfl c)
    exact hnext υ T1 I1 mc ms a1 a2 hI1
  · skip
    refine Ev.aload_n rfl rfl ?_
    refine Ev.aload_n rfl rfl ?_
    refine Ev.iload_n rfl rfl ?_
    refine Ev.iconst (v := 1) rfl (by decide) ?_
    refine Ev.iadd rfl ?_
    refine Ev.ialdSN (k := 6 * k + 1) rfl hA (nq_add (a := 6 * k) (b := 1) rfl rfl) ⟨by omega, by omega⟩ ?_
    refine Ev.aload_n rfl rfl ?_
    refine Ev.iload_n rfl rfl ?_
    refine Ev.iconst (v := 2) rfl (by decide) ?_
    refine Ev.iadd rfl ?_
    refine Ev.ialdSN (k := 6 * k + 2) rfl hA (nq_add (a := 6 * k) (b := 2) rfl rfl) ⟨by omega, by omega⟩ ?_
    refine Ev.aload_n rfl rfl ?_
    refine Ev.iload_n rfl rfl ?_
    refine Ev.iconst (v := 3) rfl (by decide) ?_
    refine Ev.iadd rfl ?_
    refine Ev.ialdSN (k := 6 * k + 3) rfl hA (nq_add (a := 6 * k) (b := 3) rfl rfl) ⟨by omega, by omega⟩ ?_
    refine Ev.aload_n rfl rfl ?_
    refine Ev.iload_n rfl rfl ?_
    refine Ev.iconst (v := 4) rfl (by decide) ?_
    refine Ev.iadd rfl ?_
    refine Ev.ialdSN (k := 6 * k + 4) rfl hA (nq_add (a := 6 * k) (b := 4) rfl rfl) ⟨by omega, by omega⟩ ?_
    refine Ev.if_eq (tgt := 550) rfl (by decide) (fun c => absurd c s4) (fun _ => ?_)
    refine Ev.iconst (v := 1) rfl (by decide) ?_
    refine Ev.goto (tgt := 551) rfl (by decide) ?_
    obtain ⟨v, T1, I1, ⟨mc, ms, a1, a2, hC⟩, hM1⟩ := pr_sit (Γ := Γ) (x := x) (xs (6 * k + 1)) (xs (6 * k + 2)) (xs (6 * k + 3)) 1 (Or.inr rfl) σ T I h
    refine Ev.callV (as := [.int (xs (6 * k + 1)), .int (xs (6 * k + 2)), .int (xs (6 * k + 3)), .int 1]) (st := []) rfl rfl h.1.1 rfl rfl rfl rfl (Nat.le_of_ble_eq_true rfl) ⟨by omega, by omega⟩ hC (fun r τ q => ?_)
    obtain ⟨rfl, hMid⟩ := q
    obtain ⟨g, A, hMM, -⟩ := hMid.m
    change Ev Γ 600000 7302250 m_Law_law (cells + mc) (slots + ms) 554 [some (.ref b), some (.ref x), some (.ref (x + 117)), some (.int (nI (6 * k)))] [.int v] τ Q
    refine Ev.aload_n rfl rfl ?_
    refine Ev.aload_n rfl rfl ?_
    refine Ev.iload_n rfl rfl ?_
    refine Ev.iconst (v := 1) rfl (by decide) ?_
    refine Ev.iadd rfl ?_
    refine Ev.ialdSN (k := 6 * k + 1) rfl hA (nq_add (a := 6 * k) (b := 1) rfl rfl) ⟨by omega, by omega⟩ ?_
    refine Ev.aload_n rfl rfl ?_
    refine Ev.iload_n rfl rfl ?_
    refine Ev.iconst (v := 2) rfl (by decide) ?_
    refine Ev.iadd rfl ?_
    refine Ev.ialdSN (k := 6 * k + 2) rfl hA (nq_add (a := 6 * k) (b := 2) rfl rfl) ⟨by omega, by omega⟩ ?_
    refine Ev.aload_n rfl rfl ?_
    refine Ev.iload_n rfl rfl ?_
    refine Ev.iconst (v := 3) rfl (by decide) ?_
    refine Ev.iadd rfl ?_
    refine Ev.ialdSN (k := 6 * k + 3) rfl hA (nq_add (a := 6 * k) (b := 3) rfl rfl) ⟨by omega, by omega⟩ ?_
    refine Ev.aload_n rfl rfl ?_
    refine Ev.iload_n rfl rfl ?_
    refine Ev.iconst (v := 4) rfl (by decide) ?_
    refine Ev.iadd rfl ?_
    refine Ev.ialdSN (k := 6 * k + 4) rfl hA (nq_add (a := 6 * k) (b := 4) rfl rfl) ⟨by omega, by omega⟩ ?_
    refine Ev.if_eq (tgt := 582) rfl (by decide) (fun c => absurd c s4) (fun _ => ?_)
    refine Ev.iconst (v := 1) rfl (by decide) ?_
    refine Ev.goto (tgt := 583) rfl (by decide) ?_
    refine Ev.callV (mc := 0) (ms := 0) (as := [.int (xs (6 * k + 1)), .int (xs (6 * k + 2)), .int (xs (6 * k + 3)), .int 1]) (st := [.int v]) rfl rfl hMM.1 rfl rfl rfl rfl (Nat.le_of_ble_eq_true rfl) ⟨by omega, by omega⟩ (hM1 τ hMid) (fun r υ q => ?_)
    obtain ⟨rfl, hI1⟩ := q
    change Ev Γ 600000 7302250 m_Law_law (cells + mc) (slots + ms) 586 [some (.ref b), some (.ref x), some (.ref (x + 117)), some (.int (nI (6 * k)))] [.int v, .int v] υ Q
    refine Ev.icmp_eq (tgt := 2095) rfl (by decide) (fun _ => ?_) (fun c => absurd rfl c)
    exact hnext υ T1 I1 mc ms a1 a2 hI1
/- fit -/
set_option maxRecDepth 16384 in
theorem law_9 (hA : (b, 0, L, xs) ∈ gA Γ) (hL : L ≤ 3072) (hk : 6 * k + 6 ≤ L) (hc : cells + 70 ≤ 600000) (hs : slots + 4300 ≤ 7302250) {σ : ex_S} {T : Tol} {I : Nat → Option Tol} (h : Inv σ x T I) (hnext : ∀ (τ : ex_S) (T1 : Tol) (I1 : Nat → Option Tol) (mc ms : Nat), mc ≤ 70 → ms ≤ 4300 → Inv τ x T1 I1 → Ev Γ 600000 7302250 m_Law_law (cells + mc) (slots + ms) 2095 [some (.ref b), some (.ref x), some (.ref (x + 117)), some (.int (nI (6 * k)))] [] τ Q) : Ev Γ 600000 7302250 m_Law_law cells slots 591 [some (.ref b), some (.ref x), some (.ref (x + 117)), some (.int (nI (6 * k)))] [] σ Q := by
  refine Ev.aload_n rfl rfl ?_
  refine Ev.aload_n rfl rfl ?_
  refine Ev.iload_n rfl rfl ?_
  refine Ev.iconst (v := 1) rfl (by decide) ?_
  refine Ev.iadd rfl ?_
  refine Ev.ialdSN (k := 6 * k + 1) rfl hA (nq_add (a := 6 * k) (b := 1) rfl rfl) ⟨by omega, by omega⟩ ?_
  refine Ev.aload_n rfl rfl ?_
  refine Ev.iload_n rfl rfl ?_
  refine Ev.iconst (v := 2) rfl (by decide) ?_
  refine Ev.iadd rfl ?_
  refine Ev.ialdSN (k := 6 * k + 2) rfl hA (nq_add (a := 6 * k) (b := 2) rfl rfl) ⟨by omega, by omega⟩ ?_
  refine Ev.aload_n rfl rfl ?_
  refine Ev.iload_n rfl rfl ?_
  refine Ev.iconst (v := 3) rfl (by decide) ?_
  refine Ev.iadd rfl ?_
  refine Ev.ialdSN (k := 6 * k + 3) rfl hA (nq_add (a := 6 * k) (b := 3) rfl rfl) ⟨by omega, by omega⟩ ?_
  refine Ev.aload_n rfl rfl ?_
  refine Ev.iload_n rfl rfl ?_
  refine Ev.iconst (v := 4) rfl (by decide) ?_
  refine Ev.iadd rfl ?_
  refine Ev.ialdSN (k := 6 * k + 4) rfl hA (nq_add (a := 6 * k) (b := 4) rfl rfl) ⟨by omega, by omega⟩ ?_
  obtain ⟨v, T1, I1, ⟨mc, ms, a1, a2, hC⟩, hM1⟩ := pr_fit (Γ := Γ) (x := x) (xs (6 * k + 1)) (xs (6 * k + 2)) (xs (6 * k + 3)) (xs (6 * k + 4)) σ T I h
  refine Ev.callV (as := [.int (xs (6 * k + 1)), .int (xs (6 * k + 2)), .int (xs (6 * k + 3)), .int (xs (6 * k + 4))]) (st := []) rfl rfl h.1.1 rfl rfl rfl rfl (Nat.le_of_ble_eq_true rfl) ⟨by omega, by omega⟩ hC (fun r τ q => ?_)
  obtain ⟨rfl, hMid⟩ := q
  obtain ⟨g, A, hMM, -⟩ := hMid.m
  change Ev Γ 600000 7302250 m_Law_law (cells + mc) (slots + ms) 615 [some (.ref b), some (.ref x), some (.ref (x + 117)), some (.int (nI (6 * k)))] [.int v] τ Q
  refine Ev.aload_n rfl rfl ?_
  refine Ev.aload_n rfl rfl ?_
  refine Ev.iload_n rfl rfl ?_
  refine Ev.iconst (v := 1) rfl (by decide) ?_
  refine Ev.iadd rfl ?_
  refine Ev.ialdSN (k := 6 * k + 1) rfl hA (nq_add (a := 6 * k) (b := 1) rfl rfl) ⟨by omega, by omega⟩ ?_
  refine Ev.aload_n rfl rfl ?_
  refine Ev.iload_n rfl rfl ?_
  refine Ev.iconst (v := 2) rfl (by decide) ?_
  refine Ev.iadd rfl ?_
  refine Ev.ialdSN (k := 6 * k + 2) rfl hA (nq_add (a := 6 * k) (b := 2) rfl rfl) ⟨by omega, by omega⟩ ?_
  refine Ev.aload_n rfl rfl ?_
  refine Ev.iload_n rfl rfl ?_
  refine Ev.iconst (v := 3) rfl (by decide) ?_
  refine Ev.iadd rfl ?_
  refine Ev.ialdSN (k := 6 * k + 3) rfl hA (nq_add (a := 6 * k) (b := 3) rfl rfl) ⟨by omega, by omega⟩ ?_
  refine Ev.aload_n rfl rfl ?_
  refine Ev.iload_n rfl rfl ?_
  refine Ev.iconst (v := 4) rfl (by decide) ?_
  refine Ev.iadd rfl ?_
  refine Ev.ialdSN (k := 6 * k + 4) rfl hA (nq_add (a := 6 * k) (b := 4) rfl rfl) ⟨by omega, by omega⟩ ?_
  refine Ev.callV (mc := 0) (ms := 0) (as := [.int (xs (6 * k + 1)), .int (xs (6 * k + 2)), .int (xs (6 * k + 3)), .int (xs (6 * k + 4))]) (st := [.int v]) rfl rfl hMM.1 rfl rfl rfl rfl (Nat.le_of_ble_eq_true rfl) ⟨by omega, by omega⟩ (hM1 τ hMid) (fun r υ q => ?_)
  obtain ⟨rfl, hI1⟩ := q
  change Ev Γ 600000 7302250 m_Law_law (cells + mc) (slots + ms) 639 [some (.ref b), some (.ref x), some (.ref (x + 117)), some (.int (nI (6 * k)))] [.int v, .int v] υ Q
  refine Ev.icmp_eq (tgt := 2095) rfl (by decide) (fun _ => ?_) (fun c => absurd rfl c)
  exact hnext υ T1 I1 mc ms a1 a2 hI1
/- learnt -/
set_option maxRecDepth 16384 in
theorem law_10 (hA : (b, 0, L, xs) ∈ gA Γ) (hL : L ≤ 3072) (hk : 6 * k + 6 ≤ L) (hc : cells + 70 ≤ 600000) (hs : slots + 4300 ≤ 7302250) {σ : ex_S} {T : Tol} {I : Nat → Option Tol} (h : Inv σ x T I) (hnext : ∀ (τ : ex_S) (T1 : Tol) (I1 : Nat → Option Tol) (mc ms : Nat), mc ≤ 70 → ms ≤ 4300 → Inv τ x T1 I1 → Ev Γ 600000 7302250 m_Law_law (cells + mc) (slots + ms) 2095 [some (.ref b), some (.ref x), some (.ref (x + 117)), some (.int (nI (6 * k)))] [] τ Q) : Ev Γ 600000 7302250 m_Law_law cells slots 644 [some (.ref b), some (.ref x), some (.ref (x + 117)), some (.int (nI (6 * k)))] [] σ Q := by
  refine Ev.aload_n rfl rfl ?_
  refine Ev.aload_n rfl rfl ?_
  refine Ev.iload_n rfl rfl ?_
  refine Ev.iconst (v := 1) rfl (by decide) ?_
  refine Ev.iadd rfl ?_
  refine Ev.ialdSN (k := 6 * k + 1) rfl hA (nq_add (a := 6 * k) (b := 1) rfl rfl) ⟨by omega, by omega⟩ ?_
  refine Ev.aload_n rfl rfl ?_
  refine Ev.iload_n rfl rfl ?_
  refine Ev.iconst (v := 2) rfl (by decide) ?_
  refine Ev.iadd rfl ?_
  refine Ev.ialdSN (k := 6 * k + 2) rfl hA (nq_add (a := 6 * k) (b := 2) rfl rfl) ⟨by omega, by omega⟩ ?_
  refine Ev.aload_n rfl rfl ?_
  refine Ev.iload_n rfl rfl ?_
  refine Ev.iconst (v := 3) rfl (by decide) ?_
  refine Ev.iadd rfl ?_
  refine Ev.ialdSN (k := 6 * k + 3) rfl hA (nq_add (a := 6 * k) (b := 3) rfl rfl) ⟨by omega, by omega⟩ ?_
  refine Ev.aload_n rfl rfl ?_
  refine Ev.iload_n rfl rfl ?_
  refine Ev.iconst (v := 4) rfl (by decide) ?_
  refine Ev.iadd rfl ?_
  refine Ev.ialdSN (k := 6 * k + 4) rfl hA (nq_add (a := 6 * k) (b := 4) rfl rfl) ⟨by omega, by omega⟩ ?_
  obtain ⟨v, T1, I1, ⟨mc, ms, a1, a2, hC⟩, hM1⟩ := pr_learnt (Γ := Γ) (x := x) (xs (6 * k + 1)) (xs (6 * k + 2)) (xs (6 * k + 3)) (xs (6 * k + 4)) σ T I h
  refine Ev.callV (as := [.int (xs (6 * k + 1)), .int (xs (6 * k + 2)), .int (xs (6 * k + 3)), .int (xs (6 * k + 4))]) (st := []) rfl rfl h.1.1 rfl rfl rfl rfl (Nat.le_of_ble_eq_true rfl) ⟨by omega, by omega⟩ hC (fun r τ q => ?_)
  obtain ⟨rfl, hMid⟩ := q
  obtain ⟨g, A, hMM, -⟩ := hMid.m
  change Ev Γ 600000 7302250 m_Law_law (cells + mc) (slots + ms) 668 [some (.ref b), some (.ref x), some (.ref (x + 117)), some (.int (nI (6 * k)))] [.int v] τ Q
  refine Ev.aload_n rfl rfl ?_
  refine Ev.aload_n rfl rfl ?_
  refine Ev.iload_n rfl rfl ?_
  refine Ev.iconst (v := 1) rfl (by decide) ?_
  refine Ev.iadd rfl ?_
  refine Ev.ialdSN (k := 6 * k + 1) rfl hA (nq_add (a := 6 * k) (b := 1) rfl rfl) ⟨by omega, by omega⟩ ?_
  refine Ev.aload_n rfl rfl ?_
  refine Ev.iload_n rfl rfl ?_
  refine Ev.iconst (v := 2) rfl (by decide) ?_
  refine Ev.iadd rfl ?_
  refine Ev.ialdSN (k := 6 * k + 2) rfl hA (nq_add (a := 6 * k) (b := 2) rfl rfl) ⟨by omega, by omega⟩ ?_
  refine Ev.aload_n rfl rfl ?_
  refine Ev.iload_n rfl rfl ?_
  refine Ev.iconst (v := 3) rfl (by decide) ?_
  refine Ev.iadd rfl ?_
  refine Ev.ialdSN (k := 6 * k + 3) rfl hA (nq_add (a := 6 * k) (b := 3) rfl rfl) ⟨by omega, by omega⟩ ?_
  refine Ev.aload_n rfl rfl ?_
  refine Ev.iload_n rfl rfl ?_
  refine Ev.iconst (v := 4) rfl (by decide) ?_
  refine Ev.iadd rfl ?_
  refine Ev.ialdSN (k := 6 * k + 4) rfl hA (nq_add (a := 6 * k) (b := 4) rfl rfl) ⟨by omega, by omega⟩ ?_
  refine Ev.callV (mc := 0) (ms := 0) (as := [.int (xs (6 * k + 1)), .int (xs (6 * k + 2)), .int (xs (6 * k + 3)), .int (xs (6 * k + 4))]) (st := [.int v]) rfl rfl hMM.1 rfl rfl rfl rfl (Nat.le_of_ble_eq_true rfl) ⟨by omega, by omega⟩ (hM1 τ hMid) (fun r υ q => ?_)
  obtain ⟨rfl, hI1⟩ := q
  change Ev Γ 600000 7302250 m_Law_law (cells + mc) (slots + ms) 692 [some (.ref b), some (.ref x), some (.ref (x + 117)), some (.int (nI (6 * k)))] [.int v, .int v] υ Q
  refine Ev.icmp_eq (tgt := 2095) rfl (by decide) (fun _ => ?_) (fun c => absurd rfl c)
  exact hnext υ T1 I1 mc ms a1 a2 hI1
/- wrong -/
set_option maxRecDepth 16384 in
theorem law_11 (hA : (b, 0, L, xs) ∈ gA Γ) (hL : L ≤ 3072) (hk : 6 * k + 6 ≤ L) (hc : cells + 70 ≤ 600000) (hs : slots + 4300 ≤ 7302250) {σ : ex_S} {T : Tol} {I : Nat → Option Tol} (h : Inv σ x T I) (hnext : ∀ (τ : ex_S) (T1 : Tol) (I1 : Nat → Option Tol) (mc ms : Nat), mc ≤ 70 → ms ≤ 4300 → Inv τ x T1 I1 → Ev Γ 600000 7302250 m_Law_law (cells + mc) (slots + ms) 2095 [some (.ref b), some (.ref x), some (.ref (x + 117)), some (.int (nI (6 * k)))] [] τ Q) : Ev Γ 600000 7302250 m_Law_law cells slots 697 [some (.ref b), some (.ref x), some (.ref (x + 117)), some (.int (nI (6 * k)))] [] σ Q := by
  refine Ev.aload_n rfl rfl ?_
  refine Ev.aload_n rfl rfl ?_
  refine Ev.iload_n rfl rfl ?_
  refine Ev.iconst (v := 1) rfl (by decide) ?_
  refine Ev.iadd rfl ?_
  refine Ev.ialdSN (k := 6 * k + 1) rfl hA (nq_add (a := 6 * k) (b := 1) rfl rfl) ⟨by omega, by omega⟩ ?_
  refine Ev.aload_n rfl rfl ?_
  refine Ev.iload_n rfl rfl ?_
  refine Ev.iconst (v := 2) rfl (by decide) ?_
  refine Ev.iadd rfl ?_
  refine Ev.ialdSN (k := 6 * k + 2) rfl hA (nq_add (a := 6 * k) (b := 2) rfl rfl) ⟨by omega, by omega⟩ ?_
  refine Ev.aload_n rfl rfl ?_
  refine Ev.iload_n rfl rfl ?_
  refine Ev.iconst (v := 3) rfl (by decide) ?_
  refine Ev.iadd rfl ?_
  refine Ev.ialdSN (k := 6 * k + 3) rfl hA (nq_add (a := 6 * k) (b := 3) rfl rfl) ⟨by omega, by omega⟩ ?_
  obtain ⟨v, T1, I1, ⟨mc, ms, a1, a2, hC⟩, hM1⟩ := pr_wrong (Γ := Γ) (x := x) (xs (6 * k + 1)) (xs (6 * k + 2)) (xs (6 * k + 3)) σ T I h
  refine Ev.callV (as := [.int (xs (6 * k + 1)), .int (xs (6 * k + 2)), .int (xs (6 * k + 3))]) (st := []) rfl rfl h.1.1 rfl rfl rfl rfl (Nat.le_of_ble_eq_true rfl) ⟨by omega, by omega⟩ hC (fun r τ q => ?_)
  obtain ⟨rfl, hMid⟩ := q
  obtain ⟨g, A, hMM, -⟩ := hMid.m
  change Ev Γ 600000 7302250 m_Law_law (cells + mc) (slots + ms) 716 [some (.ref b), some (.ref x), some (.ref (x + 117)), some (.int (nI (6 * k)))] [.int v] τ Q
  refine Ev.aload_n rfl rfl ?_
  refine Ev.aload_n rfl rfl ?_
  refine Ev.iload_n rfl rfl ?_
  refine Ev.iconst (v := 1) rfl (by decide) ?_
  refine Ev.iadd rfl ?_
  refine Ev.ialdSN (k := 6 * k + 1) rfl hA (nq_add (a := 6 * k) (b := 1) rfl rfl) ⟨by omega, by omega⟩ ?_
  refine Ev.aload_n rfl rfl ?_
  refine Ev.iload_n rfl rfl ?_
  refine Ev.iconst (v := 2) rfl (by decide) ?_
  refine Ev.iadd rfl ?_
  refine Ev.ialdSN (k := 6 * k + 2) rfl hA (nq_add (a := 6 * k) (b := 2) rfl rfl) ⟨by omega, by omega⟩ ?_
  refine Ev.aload_n rfl rfl ?_
  refine Ev.iload_n rfl rfl ?_
  refine Ev.iconst (v := 3) rfl (by decide) ?_
  refine Ev.iadd rfl ?_
  refine Ev.ialdSN (k := 6 * k + 3) rfl hA (nq_add (a := 6 * k) (b := 3) rfl rfl) ⟨by omega, by omega⟩ ?_
  refine Ev.callV (mc := 0) (ms := 0) (as := [.int (xs (6 * k + 1)), .int (xs (6 * k + 2)), .int (xs (6 * k + 3))]) (st := [.int v]) rfl rfl hMM.1 rfl rfl rfl rfl (Nat.le_of_ble_eq_true rfl) ⟨by omega, by omega⟩ (hM1 τ hMid) (fun r υ q => ?_)
  obtain ⟨rfl, hI1⟩ := q
  change Ev Γ 600000 7302250 m_Law_law (cells + mc) (slots + ms) 735 [some (.ref b), some (.ref x), some (.ref (x + 117)), some (.int (nI (6 * k)))] [.int v, .int v] υ Q
  refine Ev.icmp_eq (tgt := 2095) rfl (by decide) (fun _ => ?_) (fun c => absurd rfl c)
  exact hnext υ T1 I1 mc ms a1 a2 hI1
/- home -/
set_option maxRecDepth 16384 in
theorem law_12 (hA : (b, 0, L, xs) ∈ gA Γ) (hL : L ≤ 3072) (hk : 6 * k + 6 ≤ L) (hc : cells + 70 ≤ 600000) (hs : slots + 4300 ≤ 7302250) {σ : ex_S} {T : Tol} {I : Nat → Option Tol} (h : Inv σ x T I) (hnext : ∀ (τ : ex_S) (T1 : Tol) (I1 : Nat → Option Tol) (mc ms : Nat), mc ≤ 70 → ms ≤ 4300 → Inv τ x T1 I1 → Ev Γ 600000 7302250 m_Law_law (cells + mc) (slots + ms) 2095 [some (.ref b), some (.ref x), some (.ref (x + 117)), some (.int (nI (6 * k)))] [] τ Q) : Ev Γ 600000 7302250 m_Law_law cells slots 740 [some (.ref b), some (.ref x), some (.ref (x + 117)), some (.int (nI (6 * k)))] [] σ Q := by
  refine Ev.aload_n rfl rfl ?_
  refine Ev.aload_n rfl rfl ?_
  refine Ev.iload_n rfl rfl ?_
  refine Ev.iconst (v := 1) rfl (by decide) ?_
  refine Ev.iadd rfl ?_
  refine Ev.ialdSN (k := 6 * k + 1) rfl hA (nq_add (a := 6 * k) (b := 1) rfl rfl) ⟨by omega, by omega⟩ ?_
  refine Ev.aload_n rfl rfl ?_
  refine Ev.iload_n rfl rfl ?_
  refine Ev.iconst (v := 2) rfl (by decide) ?_
  refine Ev.iadd rfl ?_
  refine Ev.ialdSN (k := 6 * k + 2) rfl hA (nq_add (a := 6 * k) (b := 2) rfl rfl) ⟨by omega, by omega⟩ ?_
  obtain ⟨v, T1, I1, ⟨mc, ms, a1, a2, hC⟩, hM1⟩ := pr_home (Γ := Γ) (x := x) (xs (6 * k + 1)) (xs (6 * k + 2)) σ T I h
  refine Ev.callV (as := [.int (xs (6 * k + 1)), .int (xs (6 * k + 2))]) (st := []) rfl rfl h.1.1 rfl rfl rfl rfl (Nat.le_of_ble_eq_true rfl) ⟨by omega, by omega⟩ hC (fun r τ q => ?_)
  obtain ⟨rfl, hMid⟩ := q
  obtain ⟨g, A, hMM, -⟩ := hMid.m
  change Ev Γ 600000 7302250 m_Law_law (cells + mc) (slots + ms) 754 [some (.ref b), some (.ref x), some (.ref (x + 117)), some (.int (nI (6 * k)))] [.int v] τ Q
  refine Ev.aload_n rfl rfl ?_
  refine Ev.aload_n rfl rfl ?_
  refine Ev.iload_n rfl rfl ?_
  refine Ev.iconst (v := 1) rfl (by decide) ?_
  refine Ev.iadd rfl ?_
  refine Ev.ialdSN (k := 6 * k + 1) rfl hA (nq_add (a := 6 * k) (b := 1) rfl rfl) ⟨by omega, by omega⟩ ?_
  refine Ev.aload_n rfl rfl ?_
  refine Ev.iload_n rfl rfl ?_
  refine Ev.iconst (v := 2) rfl (by decide) ?_
  refine Ev.iadd rfl ?_
  refine Ev.ialdSN (k := 6 * k + 2) rfl hA (nq_add (a := 6 * k) (b := 2) rfl rfl) ⟨by omega, by omega⟩ ?_
  refine Ev.callV (mc := 0) (ms := 0) (as := [.int (xs (6 * k + 1)), .int (xs (6 * k + 2))]) (st := [.int v]) rfl rfl hMM.1 rfl rfl rfl rfl (Nat.le_of_ble_eq_true rfl) ⟨by omega, by omega⟩ (hM1 τ hMid) (fun r υ q => ?_)
  obtain ⟨rfl, hI1⟩ := q
  change Ev Γ 600000 7302250 m_Law_law (cells + mc) (slots + ms) 768 [some (.ref b), some (.ref x), some (.ref (x + 117)), some (.int (nI (6 * k)))] [.int v, .int v] υ Q
  refine Ev.icmp_eq (tgt := 2095) rfl (by decide) (fun _ => ?_) (fun c => absurd rfl c)
  exact hnext υ T1 I1 mc ms a1 a2 hI1
/- coin -/
set_option maxRecDepth 16384 in
theorem law_13 (hA : (b, 0, L, xs) ∈ gA Γ) (hL : L ≤ 3072) (hk : 6 * k + 6 ≤ L) (hc : cells + 70 ≤ 600000) (hs : slots + 4300 ≤ 7302250) {σ : ex_S} {T : Tol} {I : Nat → Option Tol} (h : Inv σ x T I) (hnext : ∀ (τ : ex_S) (T1 : Tol) (I1 : Nat → Option Tol) (mc ms : Nat), mc ≤ 70 → ms ≤ 4300 → Inv τ x T1 I1 → Ev Γ 600000 7302250 m_Law_law (cells + mc) (slots + ms) 2095 [some (.ref b), some (.ref x), some (.ref (x + 117)), some (.int (nI (6 * k)))] [] τ Q) : Ev Γ 600000 7302250 m_Law_law cells slots 773 [some (.ref b), some (.ref x), some (.ref (x + 117)), some (.int (nI (6 * k)))] [] σ Q := by
  refine Ev.aload_n rfl rfl ?_
  refine Ev.aload_n rfl rfl ?_
  refine Ev.iload_n rfl rfl ?_
  refine Ev.iconst (v := 1) rfl (by decide) ?_
  refine Ev.iadd rfl ?_
  refine Ev.ialdSN (k := 6 * k + 1) rfl hA (nq_add (a := 6 * k) (b := 1) rfl rfl) ⟨by omega, by omega⟩ ?_
  refine Ev.aload_n rfl rfl ?_
  refine Ev.iload_n rfl rfl ?_
  refine Ev.iconst (v := 2) rfl (by decide) ?_
  refine Ev.iadd rfl ?_
  refine Ev.ialdSN (k := 6 * k + 2) rfl hA (nq_add (a := 6 * k) (b := 2) rfl rfl) ⟨by omega, by omega⟩ ?_
  obtain ⟨v, T1, I1, ⟨mc, ms, a1, a2, hC⟩, hM1⟩ := pr_coin (Γ := Γ) (x := x) (xs (6 * k + 1)) (xs (6 * k + 2)) σ T I h
  refine Ev.callV (as := [.int (xs (6 * k + 1)), .int (xs (6 * k + 2))]) (st := []) rfl rfl h.1.1 rfl rfl rfl rfl (Nat.le_of_ble_eq_true rfl) ⟨by omega, by omega⟩ hC (fun r τ q => ?_)
  obtain ⟨rfl, hMid⟩ := q
  obtain ⟨g, A, hMM, -⟩ := hMid.m
  change Ev Γ 600000 7302250 m_Law_law (cells + mc) (slots + ms) 787 [some (.ref b), some (.ref x), some (.ref (x + 117)), some (.int (nI (6 * k)))] [.int v] τ Q
  refine Ev.aload_n rfl rfl ?_
  refine Ev.aload_n rfl rfl ?_
  refine Ev.iload_n rfl rfl ?_
  refine Ev.iconst (v := 1) rfl (by decide) ?_
  refine Ev.iadd rfl ?_
  refine Ev.ialdSN (k := 6 * k + 1) rfl hA (nq_add (a := 6 * k) (b := 1) rfl rfl) ⟨by omega, by omega⟩ ?_
  refine Ev.aload_n rfl rfl ?_
  refine Ev.iload_n rfl rfl ?_
  refine Ev.iconst (v := 2) rfl (by decide) ?_
  refine Ev.iadd rfl ?_
  refine Ev.ialdSN (k := 6 * k + 2) rfl hA (nq_add (a := 6 * k) (b := 2) rfl rfl) ⟨by omega, by omega⟩ ?_
  refine Ev.callV (mc := 0) (ms := 0) (as := [.int (xs (6 * k + 1)), .int (xs (6 * k + 2))]) (st := [.int v]) rfl rfl hMM.1 rfl rfl rfl rfl (Nat.le_of_ble_eq_true rfl) ⟨by omega, by omega⟩ (hM1 τ hMid) (fun r υ q => ?_)
  obtain ⟨rfl, hI1⟩ := q
  change Ev Γ 600000 7302250 m_Law_law (cells + mc) (slots + ms) 801 [some (.ref b), some (.ref x), some (.ref (x + 117)), some (.int (nI (6 * k)))] [.int v, .int v] υ Q
  refine Ev.icmp_eq (tgt := 2095) rfl (by decide) (fun _ => ?_) (fun c => absurd rfl c)
  exact hnext υ T1 I1 mc ms a1 a2 hI1
/- line -/
set_option maxRecDepth 16384 in
theorem law_14 (hA : (b, 0, L, xs) ∈ gA Γ) (hL : L ≤ 3072) (hk : 6 * k + 6 ≤ L) (hc : cells + 70 ≤ 600000) (hs : slots + 4300 ≤ 7302250) {σ : ex_S} {T : Tol} {I : Nat → Option Tol} (h : Inv σ x T I) (hnext : ∀ (τ : ex_S) (T1 : Tol) (I1 : Nat → Option Tol) (mc ms : Nat), mc ≤ 70 → ms ≤ 4300 → Inv τ x T1 I1 → Ev Γ 600000 7302250 m_Law_law (cells + mc) (slots + ms) 2095 [some (.ref b), some (.ref x), some (.ref (x + 117)), some (.int (nI (6 * k)))] [] τ Q) : Ev Γ 600000 7302250 m_Law_law cells slots 806 [some (.ref b), some (.ref x), some (.ref (x + 117)), some (.int (nI (6 * k)))] [] σ Q := by
  refine Ev.aload_n rfl rfl ?_
  refine Ev.aload_n rfl rfl ?_
  refine Ev.iload_n rfl rfl ?_
  refine Ev.iconst (v := 1) rfl (by decide) ?_
  refine Ev.iadd rfl ?_
  refine Ev.ialdSN (k := 6 * k + 1) rfl hA (nq_add (a := 6 * k) (b := 1) rfl rfl) ⟨by omega, by omega⟩ ?_
  refine Ev.aload_n rfl rfl ?_
  refine Ev.iload_n rfl rfl ?_
  refine Ev.iconst (v := 2) rfl (by decide) ?_
  refine Ev.iadd rfl ?_
  refine Ev.ialdSN (k := 6 * k + 2) rfl hA (nq_add (a := 6 * k) (b := 2) rfl rfl) ⟨by omega, by omega⟩ ?_
  refine Ev.aload_n rfl rfl ?_
  refine Ev.iload_n rfl rfl ?_
  refine Ev.iconst (v := 3) rfl (by decide) ?_
  refine Ev.iadd rfl ?_
  refine Ev.ialdSN (k := 6 * k + 3) rfl hA (nq_add (a := 6 * k) (b := 3) rfl rfl) ⟨by omega, by omega⟩ ?_
  obtain ⟨v, T1, I1, ⟨mc, ms, a1, a2, hC⟩, hM1⟩ := pr_line (Γ := Γ) (x := x) (xs (6 * k + 1)) (xs (6 * k + 2)) (xs (6 * k + 3)) σ T I h
  refine Ev.callV (as := [.int (xs (6 * k + 1)), .int (xs (6 * k + 2)), .int (xs (6 * k + 3))]) (st := []) rfl rfl h.1.1 rfl rfl rfl rfl (Nat.le_of_ble_eq_true rfl) ⟨by omega, by omega⟩ hC (fun r τ q => ?_)
  obtain ⟨rfl, hMid⟩ := q
  obtain ⟨g, A, hMM, -⟩ := hMid.m
  change Ev Γ 600000 7302250 m_Law_law (cells + mc) (slots + ms) 825 [some (.ref b), some (.ref x), some (.ref (x + 117)), some (.int (nI (6 * k)))] [.int v] τ Q
  refine Ev.aload_n rfl rfl ?_
  refine Ev.aload_n rfl rfl ?_
  refine Ev.iload_n rfl rfl ?_
  refine Ev.iconst (v := 1) rfl (by decide) ?_
  refine Ev.iadd rfl ?_
  refine Ev.ialdSN (k := 6 * k + 1) rfl hA (nq_add (a := 6 * k) (b := 1) rfl rfl) ⟨by omega, by omega⟩ ?_
  refine Ev.aload_n rfl rfl ?_
  refine Ev.iload_n rfl rfl ?_
  refine Ev.iconst (v := 2) rfl (by decide) ?_
  refine Ev.iadd rfl ?_
  refine Ev.ialdSN (k := 6 * k + 2) rfl hA (nq_add (a := 6 * k) (b := 2) rfl rfl) ⟨by omega, by omega⟩ ?_
  refine Ev.aload_n rfl rfl ?_
  refine Ev.iload_n rfl rfl ?_
  refine Ev.iconst (v := 3) rfl (by decide) ?_
  refine Ev.iadd rfl ?_
  refine Ev.ialdSN (k := 6 * k + 3) rfl hA (nq_add (a := 6 * k) (b := 3) rfl rfl) ⟨by omega, by omega⟩ ?_
  refine Ev.callV (mc := 0) (ms := 0) (as := [.int (xs (6 * k + 1)), .int (xs (6 * k + 2)), .int (xs (6 * k + 3))]) (st := [.int v]) rfl rfl hMM.1 rfl rfl rfl rfl (Nat.le_of_ble_eq_true rfl) ⟨by omega, by omega⟩ (hM1 τ hMid) (fun r υ q => ?_)
  obtain ⟨rfl, hI1⟩ := q
  change Ev Γ 600000 7302250 m_Law_law (cells + mc) (slots + ms) 844 [some (.ref b), some (.ref x), some (.ref (x + 117)), some (.int (nI (6 * k)))] [.int v, .int v] υ Q
  refine Ev.icmp_eq (tgt := 2095) rfl (by decide) (fun _ => ?_) (fun c => absurd rfl c)
  exact hnext υ T1 I1 mc ms a1 a2 hI1
end
end
