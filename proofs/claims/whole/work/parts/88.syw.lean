/-! The line of a school (reference): the public method (printed by sym.py). -/
noncomputable section
theorem K_in16 {w : Nat} (h1 : 1 ≤ w) (h : w ≤ 6) : K_in (nI w) 1 6 = 1 := by
  have e1 : (1 : Int32) = nI 1 := rfl
  have e2 : (6 : Int32) = nI 6 := rfl
  unfold K_in
  rw [e1, if_neg (nI_nlt h1 (by omega)), e2, if_neg (nI_nlt h (by omega))]
theorem in_ix {w a b : Int32} {A n : Nat} (h : ¬ K_in w a b = 0) (ha : a = nI A) (hb : b = nI (A + n - 1)) (hn : 1 ≤ A ∧ A + n < 2 ^ 31) : ∃ k, k < n ∧ w = nI (A + k) ∧ w - a = nI k := by
  unfold K_in at h
  by_cases c : w < a
  · rw [if_pos c] at h
    exact absurd rfl h
  · rw [if_neg c] at h
    by_cases d : b < w
    · rw [if_pos d] at h
      exact absurd rfl h
    · refine ix_vp c (b := nI (A + n)) ?_ ha rfl hn.2
      rw [hb] at d
      rw [lt_toInt, nI_toInt (by omega)] at d ⊢
      omega
theorem lines_okR {S : Sch} {g va : Nat → Int32} (hw : wS S) : okR S S.1 (K_m_lines S g va) := by
  intro j hj
  obtain ⟨a, b⟩ := rows_eq (ro := fun _ => 0) (g := g) (va := va) hw j hj
  have := hw.1
  rw [a, nI_clamp (by omega)]
  exact ⟨rfl, b⟩
/-- a class of kind 0 -/
def D00 : Les := fun _ => 0
theorem cuts_all {S : Sch} {k0 : Nat} {g g2 va bs bm bz : Nat → Int32} (hw : wS S) (hk6 : k0 ≤ 6) : ∀ k f, k ≤ k0 → f ≤ S.1 → Rb (K_m_cuts S k0 g2 (K_m_lines S g va) bs bm bz).2.1 (K_m_cuts S k0 g2 (K_m_lines S g va) bs bm bz).2.2.1 k f ∧ Rv S (wvF S D00 (rowN S (fun _ => 0))) (K_m_cuts S k0 g2 (K_m_lines S g va) bs bm bz).2.1 (K_m_cuts S k0 g2 (K_m_lines S g va) bs bm bz).2.2.1 k f ((K_m_cuts S k0 g2 (K_m_lines S g va) bs bm bz).2.1 (17 * k + f)) ((K_m_cuts S k0 g2 (K_m_lines S g va) bs bm bz).2.2.1 (17 * k + f)) ((K_m_cuts S k0 g2 (K_m_lines S g va) bs bm bz).2.2.2 (17 * k + f)) :=
  cuts_sem hw hk6 (stretch_wv hw rfl)
/-- the walk along the tables: i classes are behind, left at most are ahead from place f on -/
def lpP (S : Sch) (bs bm : Nat → Int32) (k0 i f left : Nat) : Prop := left + i = k0 ∧ f ≤ S.1 ∧ 0 ≤ bsI bs left f ∧ bmN bm left f + i = bmN bm k0 0
theorem lp_0 {S : Sch} {bs bm : Nat → Int32} {k0 : Nat} (hb : Rb bs bm k0 0) (h : ¬ bs (17 * k0) < 0) : lpP S bs bm k0 0 0 k0 := by
  refine ⟨rfl, Nat.zero_le _, ?_, rfl⟩
  rw [lt_toInt, show (0 : Int32).toInt = 0 from by decide] at h
  show 0 ≤ (bs (17 * k0 + 0)).toInt
  rw [Nat.add_zero]
  omega
theorem lp_next {S : Sch} {wv : Nat → Nat → Nat} {bs bm bz : Nat → Int32} {k0 i f left : Nat} (hw : wS S) (hk6 : k0 ≤ 6) (hR : ∀ k f, k ≤ k0 → f ≤ S.1 → Rb bs bm k f ∧ Rv S wv bs bm k f (bs (17 * k + f)) (bm (17 * k + f)) (bz (17 * k + f))) (hi : i < bmN bm k0 0) (h : lpP S bs bm k0 i f left) :
    bz (17 * left + f) = nI (bz (17 * left + f)).toNatClampNeg ∧ 1 ≤ left ∧ left ≤ 6 ∧ f + (bz (17 * left + f)).toNatClampNeg ≤ S.1 ∧ lpP S bs bm k0 (i + 1) (f + (bz (17 * left + f)).toNatClampNeg) (left - 1) := by
  have h16 := hw.1
  obtain ⟨h1, h2, h3, h4⟩ := h
  obtain ⟨⟨b1, b2, b3, b4⟩, r1, r2, r3⟩ := hR left f (by omega) h2
  by_cases e : f = S.1
  · have : bmN bm left f = 0 := by unfold bmN; rw [(r1 e).2]; rfl
    omega
  · by_cases c : left = 0
    · have : bsI bs left f = -1 := by unfold bsI; rw [(r2 (by omega) c).1]; decide
      omega
    · obtain ⟨l', rfl⟩ : ∃ l', left = l' + 1 := ⟨left - 1, by omega⟩
      rcases r3 (by omega) l' rfl with ⟨p1, -, -⟩ | ⟨n, n1, n2, n3, n4, n5, n6, -⟩
      · have : bsI bs (l' + 1) f = -1 := by unfold bsI; rw [p1]; decide
        omega
      · dsimp only at n3 n5
        have hfn := n1.2.2
        have hq := (hR l' (f + n) (by omega) hfn).1.2.1
        have hm : bmN bm (l' + 1) f = 1 + bmN bm l' (f + n) := by
          rw [n5] at b1
          have e1 := nI_injL (by omega) (by omega) b1
          exact e1.symm
        rw [n6, nI_clamp (by omega)]
        exact ⟨rfl, by omega, by omega, hfn, by omega, hfn, n3, by rw [show l' + 1 - 1 = l' from rfl]; omega⟩
/-- the last digit -/
def wq (w : Int32) : Nat := (w - w / 10 * 10).toNatClampNeg
theorem wh_q {w X : Int32} {c : Nat} (hX : X = nI c) (hc : c ≤ 6) (h : ¬ K_in w 10 (9 + X) = 0 ∨ ¬ K_in w 20 (19 + X) = 0) : w - w / 10 * 10 = nI (wq w) ∧ wq w < c := by
  subst hX
  have key : ∀ k, k < c → ∀ t, t = 1 ∨ t = 2 → nI (10 * t + k) - nI (10 * t + k) / 10 * 10 = nI k := by
    intro k hk t ht
    rw [show (10 : Int32) = nI 10 from rfl, pk_rem (by omega) (by omega) (by omega)]
    exact congrArg nI (by omega)
  rcases h with h | h
  · obtain ⟨k, k1, k2, -⟩ := in_ix (A := 10) (n := c) h rfl (by rw [show (9 : Int32) = nI 9 from rfl, nI_add]; exact congrArg nI (by omega)) (by omega)
    unfold wq
    rw [k2, key k k1 1 (Or.inl rfl), nI_clamp (by omega)]
    exact ⟨rfl, k1⟩
  · obtain ⟨k, k1, k2, -⟩ := in_ix (A := 20) (n := c) h rfl (by rw [show (19 : Int32) = nI 19 from rfl, nI_add]; exact congrArg nI (by omega)) (by omega)
    unfold wq
    rw [k2, key k k1 2 (Or.inr rfl), nI_clamp (by omega)]
    exact ⟨rfl, k1⟩

section
variable {Γ : ex_G} {σ : ex_S} {x q a p y : Nat} {S : Sch} {T : Tol} {P : Pln} {g A : Nat → Int32}
def F_m_line_156 (T : Tol) (i : Nat) (k0 : Nat) (w : Int32) (g : Nat → Int32) (v_along : Nat → Int32) (v_bestSum : Nat → Int32) (v_bestMany : Nat → Int32) (v_bestSize : Nat → Int32) : Nat → (Nat × Nat) → (Nat × Nat) := fun k z => (z.1 + (((K_m_cuts (tS T i) k0 g (K_m_lines (tS T i) g v_along) v_bestSum v_bestMany v_bestSize).2.2.2 (17 * z.2 + z.1)).toNatClampNeg), z.2 - 1)
def K_m_line (T : Tol) (i : Nat) (k0 : Nat) (w : Int32) (g : Nat → Int32) (v_along : Nat → Int32) (v_bestSum : Nat → Int32) (v_bestMany : Nat → Int32) (v_bestSize : Nat → Int32) : Int32 × (Nat → Int32) × (Nat → Int32) × (Nat → Int32) × (Nat → Int32) × (Nat → Int32) := if (((K_m_cuts (tS T i) k0 g (K_m_lines (tS T i) g v_along) v_bestSum v_bestMany v_bestSize).2.1) (17 * k0)) < (0 : Int32) then ((-1 : Int32), (K_m_cuts (tS T i) k0 g (K_m_lines (tS T i) g v_along) v_bestSum v_bestMany v_bestSize).1, (K_m_lines (tS T i) g v_along), (K_m_cuts (tS T i) k0 g (K_m_lines (tS T i) g v_along) v_bestSum v_bestMany v_bestSize).2.1, (K_m_cuts (tS T i) k0 g (K_m_lines (tS T i) g v_along) v_bestSum v_bestMany v_bestSize).2.2.1, (K_m_cuts (tS T i) k0 g (K_m_lines (tS T i) g v_along) v_bestSum v_bestMany v_bestSize).2.2.2) else (if w = (0 : Int32) then (((K_m_cuts (tS T i) k0 g (K_m_lines (tS T i) g v_along) v_bestSum v_bestMany v_bestSize).2.1) (17 * k0), (K_m_cuts (tS T i) k0 g (K_m_lines (tS T i) g v_along) v_bestSum v_bestMany v_bestSize).1, (K_m_lines (tS T i) g v_along), (K_m_cuts (tS T i) k0 g (K_m_lines (tS T i) g v_along) v_bestSum v_bestMany v_bestSize).2.1, (K_m_cuts (tS T i) k0 g (K_m_lines (tS T i) g v_along) v_bestSum v_bestMany v_bestSize).2.2.1, (K_m_cuts (tS T i) k0 g (K_m_lines (tS T i) g v_along) v_bestSum v_bestMany v_bestSize).2.2.2) else (if w = (1 : Int32) then (((K_m_cuts (tS T i) k0 g (K_m_lines (tS T i) g v_along) v_bestSum v_bestMany v_bestSize).2.2.1) (17 * k0), (K_m_cuts (tS T i) k0 g (K_m_lines (tS T i) g v_along) v_bestSum v_bestMany v_bestSize).1, (K_m_lines (tS T i) g v_along), (K_m_cuts (tS T i) k0 g (K_m_lines (tS T i) g v_along) v_bestSum v_bestMany v_bestSize).2.1, (K_m_cuts (tS T i) k0 g (K_m_lines (tS T i) g v_along) v_bestSum v_bestMany v_bestSize).2.2.1, (K_m_cuts (tS T i) k0 g (K_m_lines (tS T i) g v_along) v_bestSum v_bestMany v_bestSize).2.2.2) else (if (K_in w (30 : Int32) ((29 : Int32) + (nI ((tS T i).1)))) = (0 : Int32) then (if (K_in w (10 : Int32) ((9 : Int32) + (((K_m_cuts (tS T i) k0 g (K_m_lines (tS T i) g v_along) v_bestSum v_bestMany v_bestSize).2.2.1) (17 * k0)))) = (0 : Int32) then (if (K_in w (20 : Int32) ((19 : Int32) + (((K_m_cuts (tS T i) k0 g (K_m_lines (tS T i) g v_along) v_bestSum v_bestMany v_bestSize).2.2.1) (17 * k0)))) = (0 : Int32) then ((-1 : Int32), (K_m_cuts (tS T i) k0 g (K_m_lines (tS T i) g v_along) v_bestSum v_bestMany v_bestSize).1, (K_m_lines (tS T i) g v_along), (K_m_cuts (tS T i) k0 g (K_m_lines (tS T i) g v_along) v_bestSum v_bestMany v_bestSize).2.1, (K_m_cuts (tS T i) k0 g (K_m_lines (tS T i) g v_along) v_bestSum v_bestMany v_bestSize).2.2.1, (K_m_cuts (tS T i) k0 g (K_m_lines (tS T i) g v_along) v_bestSum v_bestMany v_bestSize).2.2.2) else (if w < (20 : Int32) then (nI (((K_m_cuts (tS T i) k0 g (K_m_lines (tS T i) g v_along) v_bestSum v_bestMany v_bestSize).2.2.2 (17 * ((fo (F_m_line_156 T i k0 w g v_along v_bestSum v_bestMany v_bestSize) ((wq w)) 0 (0, k0)).2) + ((fo (F_m_line_156 T i k0 w g v_along v_bestSum v_bestMany v_bestSize) ((wq w)) 0 (0, k0)).1))).toNatClampNeg), (K_m_stretch (tS T i) ((fo (F_m_line_156 T i k0 w g v_along v_bestSum v_bestMany v_bestSize) ((wq w)) 0 (0, k0)).1) (((K_m_cuts (tS T i) k0 g (K_m_lines (tS T i) g v_along) v_bestSum v_bestMany v_bestSize).2.2.2 (17 * ((fo (F_m_line_156 T i k0 w g v_along v_bestSum v_bestMany v_bestSize) ((wq w)) 0 (0, k0)).2) + ((fo (F_m_line_156 T i k0 w g v_along v_bestSum v_bestMany v_bestSize) ((wq w)) 0 (0, k0)).1))).toNatClampNeg) ((K_m_cuts (tS T i) k0 g (K_m_lines (tS T i) g v_along) v_bestSum v_bestMany v_bestSize).1) (K_m_lines (tS T i) g v_along)).2, (K_m_lines (tS T i) g v_along), (K_m_cuts (tS T i) k0 g (K_m_lines (tS T i) g v_along) v_bestSum v_bestMany v_bestSize).2.1, (K_m_cuts (tS T i) k0 g (K_m_lines (tS T i) g v_along) v_bestSum v_bestMany v_bestSize).2.2.1, (K_m_cuts (tS T i) k0 g (K_m_lines (tS T i) g v_along) v_bestSum v_bestMany v_bestSize).2.2.2) else (((K_m_stretch (tS T i) ((fo (F_m_line_156 T i k0 w g v_along v_bestSum v_bestMany v_bestSize) ((wq w)) 0 (0, k0)).1) (((K_m_cuts (tS T i) k0 g (K_m_lines (tS T i) g v_along) v_bestSum v_bestMany v_bestSize).2.2.2 (17 * ((fo (F_m_line_156 T i k0 w g v_along v_bestSum v_bestMany v_bestSize) ((wq w)) 0 (0, k0)).2) + ((fo (F_m_line_156 T i k0 w g v_along v_bestSum v_bestMany v_bestSize) ((wq w)) 0 (0, k0)).1))).toNatClampNeg) ((K_m_cuts (tS T i) k0 g (K_m_lines (tS T i) g v_along) v_bestSum v_bestMany v_bestSize).1) (K_m_lines (tS T i) g v_along)).2) 16, (K_m_stretch (tS T i) ((fo (F_m_line_156 T i k0 w g v_along v_bestSum v_bestMany v_bestSize) ((wq w)) 0 (0, k0)).1) (((K_m_cuts (tS T i) k0 g (K_m_lines (tS T i) g v_along) v_bestSum v_bestMany v_bestSize).2.2.2 (17 * ((fo (F_m_line_156 T i k0 w g v_along v_bestSum v_bestMany v_bestSize) ((wq w)) 0 (0, k0)).2) + ((fo (F_m_line_156 T i k0 w g v_along v_bestSum v_bestMany v_bestSize) ((wq w)) 0 (0, k0)).1))).toNatClampNeg) ((K_m_cuts (tS T i) k0 g (K_m_lines (tS T i) g v_along) v_bestSum v_bestMany v_bestSize).1) (K_m_lines (tS T i) g v_along)).2, (K_m_lines (tS T i) g v_along), (K_m_cuts (tS T i) k0 g (K_m_lines (tS T i) g v_along) v_bestSum v_bestMany v_bestSize).2.1, (K_m_cuts (tS T i) k0 g (K_m_lines (tS T i) g v_along) v_bestSum v_bestMany v_bestSize).2.2.1, (K_m_cuts (tS T i) k0 g (K_m_lines (tS T i) g v_along) v_bestSum v_bestMany v_bestSize).2.2.2))) else (if w < (20 : Int32) then (nI (((K_m_cuts (tS T i) k0 g (K_m_lines (tS T i) g v_along) v_bestSum v_bestMany v_bestSize).2.2.2 (17 * ((fo (F_m_line_156 T i k0 w g v_along v_bestSum v_bestMany v_bestSize) ((wq w)) 0 (0, k0)).2) + ((fo (F_m_line_156 T i k0 w g v_along v_bestSum v_bestMany v_bestSize) ((wq w)) 0 (0, k0)).1))).toNatClampNeg), (K_m_stretch (tS T i) ((fo (F_m_line_156 T i k0 w g v_along v_bestSum v_bestMany v_bestSize) ((wq w)) 0 (0, k0)).1) (((K_m_cuts (tS T i) k0 g (K_m_lines (tS T i) g v_along) v_bestSum v_bestMany v_bestSize).2.2.2 (17 * ((fo (F_m_line_156 T i k0 w g v_along v_bestSum v_bestMany v_bestSize) ((wq w)) 0 (0, k0)).2) + ((fo (F_m_line_156 T i k0 w g v_along v_bestSum v_bestMany v_bestSize) ((wq w)) 0 (0, k0)).1))).toNatClampNeg) ((K_m_cuts (tS T i) k0 g (K_m_lines (tS T i) g v_along) v_bestSum v_bestMany v_bestSize).1) (K_m_lines (tS T i) g v_along)).2, (K_m_lines (tS T i) g v_along), (K_m_cuts (tS T i) k0 g (K_m_lines (tS T i) g v_along) v_bestSum v_bestMany v_bestSize).2.1, (K_m_cuts (tS T i) k0 g (K_m_lines (tS T i) g v_along) v_bestSum v_bestMany v_bestSize).2.2.1, (K_m_cuts (tS T i) k0 g (K_m_lines (tS T i) g v_along) v_bestSum v_bestMany v_bestSize).2.2.2) else (((K_m_stretch (tS T i) ((fo (F_m_line_156 T i k0 w g v_along v_bestSum v_bestMany v_bestSize) ((wq w)) 0 (0, k0)).1) (((K_m_cuts (tS T i) k0 g (K_m_lines (tS T i) g v_along) v_bestSum v_bestMany v_bestSize).2.2.2 (17 * ((fo (F_m_line_156 T i k0 w g v_along v_bestSum v_bestMany v_bestSize) ((wq w)) 0 (0, k0)).2) + ((fo (F_m_line_156 T i k0 w g v_along v_bestSum v_bestMany v_bestSize) ((wq w)) 0 (0, k0)).1))).toNatClampNeg) ((K_m_cuts (tS T i) k0 g (K_m_lines (tS T i) g v_along) v_bestSum v_bestMany v_bestSize).1) (K_m_lines (tS T i) g v_along)).2) 16, (K_m_stretch (tS T i) ((fo (F_m_line_156 T i k0 w g v_along v_bestSum v_bestMany v_bestSize) ((wq w)) 0 (0, k0)).1) (((K_m_cuts (tS T i) k0 g (K_m_lines (tS T i) g v_along) v_bestSum v_bestMany v_bestSize).2.2.2 (17 * ((fo (F_m_line_156 T i k0 w g v_along v_bestSum v_bestMany v_bestSize) ((wq w)) 0 (0, k0)).2) + ((fo (F_m_line_156 T i k0 w g v_along v_bestSum v_bestMany v_bestSize) ((wq w)) 0 (0, k0)).1))).toNatClampNeg) ((K_m_cuts (tS T i) k0 g (K_m_lines (tS T i) g v_along) v_bestSum v_bestMany v_bestSize).1) (K_m_lines (tS T i) g v_along)).2, (K_m_lines (tS T i) g v_along), (K_m_cuts (tS T i) k0 g (K_m_lines (tS T i) g v_along) v_bestSum v_bestMany v_bestSize).2.1, (K_m_cuts (tS T i) k0 g (K_m_lines (tS T i) g v_along) v_bestSum v_bestMany v_bestSize).2.2.1, (K_m_cuts (tS T i) k0 g (K_m_lines (tS T i) g v_along) v_bestSum v_bestMany v_bestSize).2.2.2))) else ((K_m_lines (tS T i) g v_along) (w - 30).toNatClampNeg, (K_m_cuts (tS T i) k0 g (K_m_lines (tS T i) g v_along) v_bestSum v_bestMany v_bestSize).1, (K_m_lines (tS T i) g v_along), (K_m_cuts (tS T i) k0 g (K_m_lines (tS T i) g v_along) v_bestSum v_bestMany v_bestSize).2.1, (K_m_cuts (tS T i) k0 g (K_m_lines (tS T i) g v_along) v_bestSum v_bestMany v_bestSize).2.2.1, (K_m_cuts (tS T i) k0 g (K_m_lines (tS T i) g v_along) v_bestSum v_bestMany v_bestSize).2.2.2))))
theorem m_line_some (hM : isM σ y g A) (hT : mT A 0 T) (hw : wT T)  {v_along : Nat → Int32} (m_along : σ.2 (y + 4) = some (.inl (0, 16, v_along))) {v_bestSum : Nat → Int32} (m_bestSum : σ.2 (y + 5) = some (.inl (0, 119, v_bestSum))) {v_bestMany : Nat → Int32} (m_bestMany : σ.2 (y + 6) = some (.inl (0, 119, v_bestMany))) {v_bestSize : Nat → Int32} (m_bestSize : σ.2 (y + 7) = some (.inl (0, 119, v_bestSize))) {u : Int32} {i : Nat} (hg : u = nI i ∧ i < tSn T) {k0 : Nat} (hk1 : 1 ≤ k0) (hk6 : k0 ≤ 6) (w : Int32) : RetX Γ m_M_line [(.ref y), .int u, (.int (nI k0)), (.int w)] σ y (y + 17) (some (.int ((K_m_line T i k0 w g v_along v_bestSum v_bestMany v_bestSize).1))) (fun τ => τ.2 y = some (.inr (.inr (10, mo y ((K_m_line T i k0 w g v_along v_bestSum v_bestMany v_bestSize).2.1)))) ∧ τ.2 (y + 4) = some (.inl (0, 16, (K_m_line T i k0 w g v_along v_bestSum v_bestMany v_bestSize).2.2.1)) ∧ τ.2 (y + 5) = some (.inl (0, 119, (K_m_line T i k0 w g v_along v_bestSum v_bestMany v_bestSize).2.2.2.1)) ∧ τ.2 (y + 6) = some (.inl (0, 119, (K_m_line T i k0 w g v_along v_bestSum v_bestMany v_bestSize).2.2.2.2.1)) ∧ τ.2 (y + 7) = some (.inl (0, 119, (K_m_line T i k0 w g v_along v_bestSum v_bestMany v_bestSize).2.2.2.2.2)) ∧ (∀ q, q ≠ y → q ≠ y + 4 → q ≠ y + 5 → q ≠ y + 6 → q ≠ y + 7 → τ.2 q = σ.2 q)) := by
  obtain ⟨m0, m1⟩ := id hM
  obtain ⟨rfl, hi⟩ := hg
  have hi3 : i < 3 := by have := hw.2.1; omega
  have hwS := hw.2.2.2.1 i hi
  have hn16 := hwS.1
  have hn5 := hwS.2.1
  have hS := hT.s hi
  have hs : 610 + 120 * i + 120 ≤ 4500 := by omega
  unfold RetX
  generalize hQ : (fun (r : Option Value) (τ : ex_S) => r = some (.int ((K_m_line T i k0 w g v_along v_bestSum v_bestMany v_bestSize).1)) ∧ frm σ τ y (y + 17) ∧ (fun τ : ex_S => τ.2 y = some (.inr (.inr (10, mo y ((K_m_line T i k0 w g v_along v_bestSum v_bestMany v_bestSize).2.1)))) ∧ τ.2 (y + 4) = some (.inl (0, 16, (K_m_line T i k0 w g v_along v_bestSum v_bestMany v_bestSize).2.2.1)) ∧ τ.2 (y + 5) = some (.inl (0, 119, (K_m_line T i k0 w g v_along v_bestSum v_bestMany v_bestSize).2.2.2.1)) ∧ τ.2 (y + 6) = some (.inl (0, 119, (K_m_line T i k0 w g v_along v_bestSum v_bestMany v_bestSize).2.2.2.2.1)) ∧ τ.2 (y + 7) = some (.inl (0, 119, (K_m_line T i k0 w g v_along v_bestSum v_bestMany v_bestSize).2.2.2.2.2)) ∧ (∀ q, q ≠ y → q ≠ y + 4 → q ≠ y + 5 → q ≠ y + 6 → q ≠ y + 7 → τ.2 q = σ.2 q)) τ) = Q
  refine Ret.start pm_227 rfl ?_
  have fr : frm σ σ y (y + 17) := frm.rf
  have kp : (∀ q, q ≠ y → q ≠ y + 4 → q ≠ y + 5 → q ≠ y + 6 → q ≠ y + 7 → σ.2 q = σ.2 q) := fun _ _ _ _ _ _ => rfl
  have hM : isM _ y g A := ⟨m0, m1⟩
  refine Ev.aload_n rfl rfl ?_
  refine Ev.iconst (v := 0) rfl (by decide) ?_
  refine Ev.iload_n rfl rfl ?_
  refine Ev.cV2 rfl rfl m0 rfl rfl (by decide) ⟨(Nat.le_refl _), (Nat.le_refl _)⟩ (m_isOf0_yes hM hT hw hi) ?_
  refine Ev.zeq (tgt := 19) rfl (by decide) (fun c6 => absurd c6 (by decide)) (fun c6 => ?_)
  refine Ev.iload_n rfl rfl ?_
  refine Ev.iconst (v := 1) rfl (by decide) ?_
  refine Ev.bipush (v := 6) rfl (by decide) ?_
  refine Ev.cS3 rfl rfl rfl (by decide) ⟨(Nat.le_refl _), (Nat.le_refl _)⟩ (m_in_y (K_in16 hk1 hk6)) ?_
  refine Ev.zne (tgt := 21) rfl (by decide) (fun c16 => ?_) (fun c16 => absurd c16 (by decide))
  refine Ev.iconst (v := 0) rfl (by decide) ?_
  refine Ev.iload_n rfl rfl ?_
  refine Ev.cS2 rfl rfl rfl (by decide) ⟨(Nat.le_refl _), (Nat.le_refl _)⟩ (m_pl0_ok i) ?_
  refine Ev.istore rfl rfl rfl ?_
  refine Ev.aload_n rfl rfl ?_
  refine Ev.iload rfl rfl ?_
  refine Ev.xV1u rfl rfl m0 rfl rfl (by decide) ⟨(Nat.le_refl _), (Nat.le_refl _)⟩ (m_lines_ok hM hS hs hwS m_along) (fun τ1 f1 q1 => ?_)
  obtain ⟨m_along, k1⟩ := q1
  have m1 := (k1 _ (by omega)).trans m1
  have m0 := (k1 _ (by omega)).trans m0
  have m_bestSum := (k1 _ (by omega)).trans m_bestSum
  have m_bestMany := (k1 _ (by omega)).trans m_bestMany
  have m_bestSize := (k1 _ (by omega)).trans m_bestSize
  have kp : (∀ q, q ≠ y → q ≠ y + 4 → q ≠ y + 5 → q ≠ y + 6 → q ≠ y + 7 → τ1.2 q = σ.2 q) := fun q n0 n1 n2 n3 n4 => (k1 q (by omega)).trans (kp q n0 n1 n2 n3 n4)
  have fr := fr.step f1 (by omega) (by omega)
  have hM : isM _ y g A := ⟨m0, m1⟩
  have hal := lines_okR (S := tS T i) (g := g) (va := v_along) hwS
  refine Ev.aload_n rfl rfl ?_
  refine Ev.iload rfl rfl ?_
  refine Ev.iload_n rfl rfl ?_
  refine Ev.xV2u rfl rfl m0 rfl rfl (by decide) ⟨(Nat.le_refl _), (Nat.le_refl _)⟩ (m_cuts_ok hM hS hs hwS m_along m_bestSum m_bestMany m_bestSize hk6 hal) (fun τ2 f1 q1 => ?_)
  obtain ⟨m0, m_bestSum, m_bestMany, m_bestSize, k1⟩ := q1
  have m1 := (k1 _ (by omega) (by omega) (by omega) (by omega)).trans m1
  have m_along := (k1 _ (by omega) (by omega) (by omega) (by omega)).trans m_along
  have kp : (∀ q, q ≠ y → q ≠ y + 4 → q ≠ y + 5 → q ≠ y + 6 → q ≠ y + 7 → τ2.2 q = σ.2 q) := fun q n0 n1 n2 n3 n4 => (k1 q (by omega) (by omega) (by omega) (by omega)).trans (kp q n0 n1 n2 n3 n4)
  have fr := fr.step f1 (by omega) (by omega)
  have hM : isM _ y ((K_m_cuts (tS T i) k0 g (K_m_lines (tS T i) g v_along) v_bestSum v_bestMany v_bestSize).1) A := ⟨m0, m1⟩
  have hR := cuts_all (S := tS T i) (k0 := k0) (g := g) (g2 := g) (va := v_along) (bs := v_bestSum) (bm := v_bestMany) (bz := v_bestSize) hwS hk6
  have hbk := (hR k0 0 (Nat.le_refl _) (Nat.zero_le _)).1
  have hb6 := hbk.2.1
  refine Ev.aload_n rfl rfl ?_
  refine Ev.getf rfl rfl m0 rfl ?_
  refine Ev.bipush (v := 17) rfl (by decide) ?_
  refine Ev.iload_n rfl rfl ?_
  refine Ev.imul rfl ?_
  refine Ev.ialdN (k := 17 * k0) rfl m_bestSum (nq_mul (a := 17) (b := k0) (rfl : (17 : Int32) = nI 17) rfl) ⟨(by omega), by decide⟩ ?_
  refine Ev.zge (tgt := 55) rfl (by decide) (fun c50 => ?_) (fun c50 => ?_)
  · skip
    refine Ev.aload_n rfl rfl ?_
    refine Ev.getf rfl rfl m0 rfl ?_
    refine Ev.bipush (v := 17) rfl (by decide) ?_
    refine Ev.iload_n rfl rfl ?_
    refine Ev.imul rfl ?_
    refine Ev.ialdN (k := 17 * k0) rfl m_bestMany (nq_mul (a := 17) (b := k0) (rfl : (17 : Int32) = nI 17) rfl) ⟨(by omega), by decide⟩ ?_
    refine Ev.istore rfl rfl rfl ?_
    refine Ev.iload_n rfl rfl ?_
    refine Ev.zne (tgt := 80) rfl (by decide) (fun c67 => ?_) (fun c67 => ?_)
    · skip
      refine Ev.iload_n rfl rfl ?_
      refine Ev.iconst (v := 1) rfl (by decide) ?_
      refine Ev.jne (tgt := 88) rfl (by decide) (fun c82 => ?_) (fun c82 => ?_)
      · skip
        refine Ev.iload_n rfl rfl ?_
        refine Ev.bipush (v := 30) rfl (by decide) ?_
        refine Ev.bipush (v := 29) rfl (by decide) ?_
        refine Ev.aload_n rfl rfl ?_
        refine Ev.getf rfl rfl m0 rfl ?_
        refine Ev.iload rfl rfl ?_
        refine Ev.ialdN (k := 610 + 120 * i) rfl m1 (nq_to (a := 610 + 120 * i) rfl (by omega)) ⟨(by omega), by decide⟩ ?_
        rw [hS.1]
        refine Ev.iadd rfl ?_
        refine Ev.cS3 rfl rfl rfl (by decide) ⟨(Nat.le_refl _), (Nat.le_refl _)⟩ (m_in_ok _ _ _) ?_
        refine Ev.zeq (tgt := 117) rfl (by decide) (fun c104 => ?_) (fun c104 => ?_)
        · skip
          refine Ev.iload_n rfl rfl ?_
          refine Ev.bipush (v := 10) rfl (by decide) ?_
          refine Ev.bipush (v := 9) rfl (by decide) ?_
          refine Ev.iload rfl rfl ?_
          refine Ev.iadd rfl ?_
          refine Ev.cS3 rfl rfl rfl (by decide) ⟨(Nat.le_refl _), (Nat.le_refl _)⟩ (m_in_ok _ _ _) ?_
          refine Ev.zne (tgt := 147) rfl (by decide) (fun c128 => ?_) (fun c128 => ?_)
          · skip
            obtain ⟨hrem, hrq⟩ : w - w / 10 * 10 = nI (wq w) ∧ (wq w) < bmN (K_m_cuts (tS T i) k0 g (K_m_lines (tS T i) g v_along) v_bestSum v_bestMany v_bestSize).2.2.1 k0 0 := by first | exact wh_q hbk.1 (by omega) (Or.inl c128) | exact wh_q hbk.1 (by omega) (Or.inr c142)
            refine Ev.iconst (v := 0) rfl (by decide) ?_
            refine Ev.istore rfl rfl rfl ?_
            refine Ev.iload_n rfl rfl ?_
            refine Ev.istore rfl rfl rfl ?_
            refine Ev.iconst (v := 0) rfl (by decide) ?_
            refine Ev.istore rfl rfl rfl ?_
            refine Ev.fg (L := [some (.ref y), none, none, some (.int w), some (.int (nI (610 + 120 * i))), none, some (.int (nI 0)), some (.int (nI k0)), some (.int (nI 0)), none]) ?_ (gs rfl (gn (gn (gs rfl (gs rfl (gn (gs (congrArg Value.int (rfl : (0 : Int32) = nI 0).symm) (gs rfl (gs (congrArg Value.int (rfl : (0 : Int32) = nI 0).symm) (gn gz))))))))))
            refine lp (fun (k : Nat) (z : Nat × Nat) => (lpP (tS T i) (K_m_cuts (tS T i) k0 g (K_m_lines (tS T i) g v_along) v_bestSum v_bestMany v_bestSize).2.1 (K_m_cuts (tS T i) k0 g (K_m_lines (tS T i) g v_along) v_bestSum v_bestMany v_bestSize).2.2.1 k0 k z.1 z.2) → Ev Γ 0 0 m_M_line 0 0 156 [some (.ref y), none, none, some (.int w), some (.int (nI (610 + 120 * i))), none, some (.int (nI z.1)), some (.int (nI z.2)), some (.int (nI k)), none] [] τ2 Q) (F_m_line_156 T i k0 w g v_along v_bestSum v_bestMany v_bestSize) ((wq w)) (fun k z hk hx => ?_) ((wq w)) 0 (0, k0) (by omega) ?_ (lp_0 hbk c50)
            · skip
              intro hI
              refine Ev.iload rfl rfl ?_
              refine Ev.iload_n rfl rfl ?_
              refine Ev.bipush (v := 10) rfl (by decide) ?_
              refine Ev.irem rfl (by decide) ?_
              rw [hrem]
              refine Ev.jge (tgt := 196) rfl (by decide) (fun c162 => absurd (nI_lt hk (by omega)) c162) (fun c162 => ?_)
              refine Ev.aload_n rfl rfl ?_
              refine Ev.getf rfl rfl m0 rfl ?_
              refine Ev.bipush (v := 17) rfl (by decide) ?_
              refine Ev.iload rfl rfl ?_
              refine Ev.imul rfl ?_
              refine Ev.iload rfl rfl ?_
              refine Ev.iadd rfl ?_
              obtain ⟨hz, hz1, hzl, hz2, hnx⟩ := lp_next hwS hk6 hR (Nat.lt_trans hk hrq) hI
              refine Ev.ialdN (k := 17 * z.2 + z.1) rfl m_bestSize (nq_add (a := 17 * z.2) (b := z.1) (nq_mul (a := 17) (b := z.2) (rfl : (17 : Int32) = nI 17) rfl) rfl) ⟨(by omega), by decide⟩ ?_
              rw [hz]
              refine Ev.istore rfl rfl rfl ?_
              refine Ev.iload rfl rfl ?_
              refine Ev.iload rfl rfl ?_
              refine Ev.iadd rfl ?_
              refine Ev.istore rfl rfl rfl ?_
              refine Ev.iinc (d := (-1)) rfl rfl rfl (by decide) rfl ?_
              refine Ev.iinc (d := 1) rfl rfl rfl (by decide) rfl ?_
              refine Ev.goto (tgt := 156) rfl (by decide) ?_
              have hF : (F_m_line_156 T i k0 w g v_along v_bestSum v_bestMany v_bestSize) k z = (z.1 + (((K_m_cuts (tS T i) k0 g (K_m_lines (tS T i) g v_along) v_bestSum v_bestMany v_bestSize).2.2.2 (17 * z.2 + z.1)).toNatClampNeg), z.2 - 1) := by rfl
              rw [hF] at hx
              exact (hx (by show (lpP (tS T i) (K_m_cuts (tS T i) k0 g (K_m_lines (tS T i) g v_along) v_bestSum v_bestMany v_bestSize).2.1 (K_m_cuts (tS T i) k0 g (K_m_lines (tS T i) g v_along) v_bestSum v_bestMany v_bestSize).2.2.1 k0 (k + 1) (z.1 + (((K_m_cuts (tS T i) k0 g (K_m_lines (tS T i) g v_along) v_bestSum v_bestMany v_bestSize).2.2.2 (17 * z.2 + z.1)).toNatClampNeg)) (z.2 - 1)); exact hnx)).fg (gs rfl (gn (gn (gs rfl (gs rfl (gn (gs (congrArg Value.int (nq_add (a := z.1) (b := ((K_m_cuts (tS T i) k0 g (K_m_lines (tS T i) g v_along) v_bestSum v_bestMany v_bestSize).2.2.2 (17 * z.2 + z.1)).toNatClampNeg) rfl rfl).symm) (gs (congrArg Value.int (nq_dec (a := z.2) rfl (rfl : (-1 : Int32) = - nI 1) (by omega)).symm) (gs (congrArg Value.int (show nI (k + 1) = (nI k) + (1 : Int32) from (nq_to (a := k + 1) (nq_add (a := k) (b := 1) rfl (rfl : (1 : Int32) = nI 1)) (by omega)).symm)) (gn gz))))))))))
            · skip
              intro hI
              refine Ev.iload rfl rfl ?_
              refine Ev.iload_n rfl rfl ?_
              refine Ev.bipush (v := 10) rfl (by decide) ?_
              refine Ev.irem rfl (by decide) ?_
              rw [hrem]
              refine Ev.jge (tgt := 196) rfl (by decide) (fun c162 => ?_) (fun c162 => absurd c162 (nI_nlt (Nat.le_refl _) (by omega)))
              refine Ev.aload_n rfl rfl ?_
              refine Ev.getf rfl rfl m0 rfl ?_
              refine Ev.bipush (v := 17) rfl (by decide) ?_
              refine Ev.iload rfl rfl ?_
              refine Ev.imul rfl ?_
              refine Ev.iload rfl rfl ?_
              refine Ev.iadd rfl ?_
              obtain ⟨hz, hz1, hzl, hz2, hnx⟩ := lp_next hwS hk6 hR hrq hI
              refine Ev.ialdN (k := 17 * ((fo (F_m_line_156 T i k0 w g v_along v_bestSum v_bestMany v_bestSize) ((wq w)) 0 (0, k0)).2) + ((fo (F_m_line_156 T i k0 w g v_along v_bestSum v_bestMany v_bestSize) ((wq w)) 0 (0, k0)).1)) rfl m_bestSize (nq_add (a := 17 * ((fo (F_m_line_156 T i k0 w g v_along v_bestSum v_bestMany v_bestSize) ((wq w)) 0 (0, k0)).2)) (b := (fo (F_m_line_156 T i k0 w g v_along v_bestSum v_bestMany v_bestSize) ((wq w)) 0 (0, k0)).1) (nq_mul (a := 17) (b := (fo (F_m_line_156 T i k0 w g v_along v_bestSum v_bestMany v_bestSize) ((wq w)) 0 (0, k0)).2) (rfl : (17 : Int32) = nI 17) rfl) rfl) ⟨(by omega), by decide⟩ ?_
              rw [hz]
              refine Ev.istore rfl rfl rfl ?_
              refine Ev.aload_n rfl rfl ?_
              refine Ev.iload rfl rfl ?_
              refine Ev.iload rfl rfl ?_
              refine Ev.iload rfl rfl ?_
              refine Ev.xV3 rfl rfl m0 rfl rfl (by decide) ⟨(Nat.le_refl _), (Nat.le_refl _)⟩ (m_stretch_ok hM hS hs hwS m_along (by omega) hal) (fun τ3 f1 q1 => ?_)
              obtain ⟨m0, k1⟩ := q1
              have m1 := (k1 _ (by omega)).trans m1
              have m_along := (k1 _ (by omega)).trans m_along
              have m_bestSum := (k1 _ (by omega)).trans m_bestSum
              have m_bestMany := (k1 _ (by omega)).trans m_bestMany
              have m_bestSize := (k1 _ (by omega)).trans m_bestSize
              have kp : (∀ q, q ≠ y → q ≠ y + 4 → q ≠ y + 5 → q ≠ y + 6 → q ≠ y + 7 → τ3.2 q = σ.2 q) := fun q n0 n1 n2 n3 n4 => (k1 q (by omega)).trans (kp q n0 n1 n2 n3 n4)
              have fr := fr.step f1 (by omega) (by omega)
              have hM : isM _ y ((K_m_stretch (tS T i) ((fo (F_m_line_156 T i k0 w g v_along v_bestSum v_bestMany v_bestSize) ((wq w)) 0 (0, k0)).1) (((K_m_cuts (tS T i) k0 g (K_m_lines (tS T i) g v_along) v_bestSum v_bestMany v_bestSize).2.2.2 (17 * ((fo (F_m_line_156 T i k0 w g v_along v_bestSum v_bestMany v_bestSize) ((wq w)) 0 (0, k0)).2) + ((fo (F_m_line_156 T i k0 w g v_along v_bestSum v_bestMany v_bestSize) ((wq w)) 0 (0, k0)).1))).toNatClampNeg) ((K_m_cuts (tS T i) k0 g (K_m_lines (tS T i) g v_along) v_bestSum v_bestMany v_bestSize).1) (K_m_lines (tS T i) g v_along)).2) A := ⟨m0, m1⟩
              refine Ev.istore rfl rfl rfl ?_
              refine Ev.iload_n rfl rfl ?_
              refine Ev.bipush (v := 20) rfl (by decide) ?_
              refine Ev.jge (tgt := 234) rfl (by decide) (fun c226 => ?_) (fun c226 => ?_)
              · skip
                refine Ev.aload_n rfl rfl ?_
                refine Ev.getf rfl rfl m0 rfl ?_
                refine Ev.iret (ty := .int) rfl rfl rfl (Nat.le_refl _) (Nat.le_refl _) ?_
                have hK : (K_m_line T i k0 w g v_along v_bestSum v_bestMany v_bestSize) = (((K_m_stretch (tS T i) ((fo (F_m_line_156 T i k0 w g v_along v_bestSum v_bestMany v_bestSize) ((wq w)) 0 (0, k0)).1) (((K_m_cuts (tS T i) k0 g (K_m_lines (tS T i) g v_along) v_bestSum v_bestMany v_bestSize).2.2.2 (17 * ((fo (F_m_line_156 T i k0 w g v_along v_bestSum v_bestMany v_bestSize) ((wq w)) 0 (0, k0)).2) + ((fo (F_m_line_156 T i k0 w g v_along v_bestSum v_bestMany v_bestSize) ((wq w)) 0 (0, k0)).1))).toNatClampNeg) ((K_m_cuts (tS T i) k0 g (K_m_lines (tS T i) g v_along) v_bestSum v_bestMany v_bestSize).1) (K_m_lines (tS T i) g v_along)).2) 16, (K_m_stretch (tS T i) ((fo (F_m_line_156 T i k0 w g v_along v_bestSum v_bestMany v_bestSize) ((wq w)) 0 (0, k0)).1) (((K_m_cuts (tS T i) k0 g (K_m_lines (tS T i) g v_along) v_bestSum v_bestMany v_bestSize).2.2.2 (17 * ((fo (F_m_line_156 T i k0 w g v_along v_bestSum v_bestMany v_bestSize) ((wq w)) 0 (0, k0)).2) + ((fo (F_m_line_156 T i k0 w g v_along v_bestSum v_bestMany v_bestSize) ((wq w)) 0 (0, k0)).1))).toNatClampNeg) ((K_m_cuts (tS T i) k0 g (K_m_lines (tS T i) g v_along) v_bestSum v_bestMany v_bestSize).1) (K_m_lines (tS T i) g v_along)).2, (K_m_lines (tS T i) g v_along), (K_m_cuts (tS T i) k0 g (K_m_lines (tS T i) g v_along) v_bestSum v_bestMany v_bestSize).2.1, (K_m_cuts (tS T i) k0 g (K_m_lines (tS T i) g v_along) v_bestSum v_bestMany v_bestSize).2.2.1, (K_m_cuts (tS T i) k0 g (K_m_lines (tS T i) g v_along) v_bestSum v_bestMany v_bestSize).2.2.2) := by
                  unfold K_m_line
                  rw [if_neg c50]
                  rw [if_neg c67]
                  rw [if_neg c82]
                  rw [if_pos c104]
                  rw [if_neg c128]
                  rw [if_neg c226]
                rw [← hQ]
                dsimp only
                rw [hK]
                exact ⟨rfl, fr, m0, m_along, m_bestSum, m_bestMany, m_bestSize, kp⟩
              · skip
                refine Ev.iload rfl rfl ?_
                refine Ev.goto (tgt := 238) rfl (by decide) ?_
                refine Ev.iret (ty := .int) rfl rfl rfl (Nat.le_refl _) (Nat.le_refl _) ?_
                have hK : (K_m_line T i k0 w g v_along v_bestSum v_bestMany v_bestSize) = (nI (((K_m_cuts (tS T i) k0 g (K_m_lines (tS T i) g v_along) v_bestSum v_bestMany v_bestSize).2.2.2 (17 * ((fo (F_m_line_156 T i k0 w g v_along v_bestSum v_bestMany v_bestSize) ((wq w)) 0 (0, k0)).2) + ((fo (F_m_line_156 T i k0 w g v_along v_bestSum v_bestMany v_bestSize) ((wq w)) 0 (0, k0)).1))).toNatClampNeg), (K_m_stretch (tS T i) ((fo (F_m_line_156 T i k0 w g v_along v_bestSum v_bestMany v_bestSize) ((wq w)) 0 (0, k0)).1) (((K_m_cuts (tS T i) k0 g (K_m_lines (tS T i) g v_along) v_bestSum v_bestMany v_bestSize).2.2.2 (17 * ((fo (F_m_line_156 T i k0 w g v_along v_bestSum v_bestMany v_bestSize) ((wq w)) 0 (0, k0)).2) + ((fo (F_m_line_156 T i k0 w g v_along v_bestSum v_bestMany v_bestSize) ((wq w)) 0 (0, k0)).1))).toNatClampNeg) ((K_m_cuts (tS T i) k0 g (K_m_lines (tS T i) g v_along) v_bestSum v_bestMany v_bestSize).1) (K_m_lines (tS T i) g v_along)).2, (K_m_lines (tS T i) g v_along), (K_m_cuts (tS T i) k0 g (K_m_lines (tS T i) g v_along) v_bestSum v_bestMany v_bestSize).2.1, (K_m_cuts (tS T i) k0 g (K_m_lines (tS T i) g v_along) v_bestSum v_bestMany v_bestSize).2.2.1, (K_m_cuts (tS T i) k0 g (K_m_lines (tS T i) g v_along) v_bestSum v_bestMany v_bestSize).2.2.2) := by
                  unfold K_m_line
                  rw [if_neg c50]
                  rw [if_neg c67]
                  rw [if_neg c82]
                  rw [if_pos c104]
                  rw [if_neg c128]
                  rw [if_pos c226]
                rw [← hQ]
                dsimp only
                rw [hK]
                exact ⟨rfl, fr, m0, m_along, m_bestSum, m_bestMany, m_bestSize, kp⟩
          · skip
            refine Ev.iload_n rfl rfl ?_
            refine Ev.bipush (v := 20) rfl (by decide) ?_
            refine Ev.bipush (v := 19) rfl (by decide) ?_
            refine Ev.iload rfl rfl ?_
            refine Ev.iadd rfl ?_
            refine Ev.cS3 rfl rfl rfl (by decide) ⟨(Nat.le_refl _), (Nat.le_refl _)⟩ (m_in_ok _ _ _) ?_
            refine Ev.zne (tgt := 147) rfl (by decide) (fun c142 => ?_) (fun c142 => ?_)
            · skip
              obtain ⟨hrem, hrq⟩ : w - w / 10 * 10 = nI (wq w) ∧ (wq w) < bmN (K_m_cuts (tS T i) k0 g (K_m_lines (tS T i) g v_along) v_bestSum v_bestMany v_bestSize).2.2.1 k0 0 := by first | exact wh_q hbk.1 (by omega) (Or.inl c128) | exact wh_q hbk.1 (by omega) (Or.inr c142)
              refine Ev.iconst (v := 0) rfl (by decide) ?_
              refine Ev.istore rfl rfl rfl ?_
              refine Ev.iload_n rfl rfl ?_
              refine Ev.istore rfl rfl rfl ?_
              refine Ev.iconst (v := 0) rfl (by decide) ?_
              refine Ev.istore rfl rfl rfl ?_
              refine Ev.fg (L := [some (.ref y), none, none, some (.int w), some (.int (nI (610 + 120 * i))), none, some (.int (nI 0)), some (.int (nI k0)), some (.int (nI 0)), none]) ?_ (gs rfl (gn (gn (gs rfl (gs rfl (gn (gs (congrArg Value.int (rfl : (0 : Int32) = nI 0).symm) (gs rfl (gs (congrArg Value.int (rfl : (0 : Int32) = nI 0).symm) (gn gz))))))))))
              refine lp (fun (k : Nat) (z : Nat × Nat) => (lpP (tS T i) (K_m_cuts (tS T i) k0 g (K_m_lines (tS T i) g v_along) v_bestSum v_bestMany v_bestSize).2.1 (K_m_cuts (tS T i) k0 g (K_m_lines (tS T i) g v_along) v_bestSum v_bestMany v_bestSize).2.2.1 k0 k z.1 z.2) → Ev Γ 0 0 m_M_line 0 0 156 [some (.ref y), none, none, some (.int w), some (.int (nI (610 + 120 * i))), none, some (.int (nI z.1)), some (.int (nI z.2)), some (.int (nI k)), none] [] τ2 Q) (F_m_line_156 T i k0 w g v_along v_bestSum v_bestMany v_bestSize) ((wq w)) (fun k z hk hx => ?_) ((wq w)) 0 (0, k0) (by omega) ?_ (lp_0 hbk c50)
              · skip
                intro hI
                refine Ev.iload rfl rfl ?_
                refine Ev.iload_n rfl rfl ?_
                refine Ev.bipush (v := 10) rfl (by decide) ?_
                refine Ev.irem rfl (by decide) ?_
                rw [hrem]
                refine Ev.jge (tgt := 196) rfl (by decide) (fun c162 => absurd (nI_lt hk (by omega)) c162) (fun c162 => ?_)
                refine Ev.aload_n rfl rfl ?_
                refine Ev.getf rfl rfl m0 rfl ?_
                refine Ev.bipush (v := 17) rfl (by decide) ?_
                refine Ev.iload rfl rfl ?_
                refine Ev.imul rfl ?_
                refine Ev.iload rfl rfl ?_
                refine Ev.iadd rfl ?_
                obtain ⟨hz, hz1, hzl, hz2, hnx⟩ := lp_next hwS hk6 hR (Nat.lt_trans hk hrq) hI
                refine Ev.ialdN (k := 17 * z.2 + z.1) rfl m_bestSize (nq_add (a := 17 * z.2) (b := z.1) (nq_mul (a := 17) (b := z.2) (rfl : (17 : Int32) = nI 17) rfl) rfl) ⟨(by omega), by decide⟩ ?_
                rw [hz]
                refine Ev.istore rfl rfl rfl ?_
                refine Ev.iload rfl rfl ?_
                refine Ev.iload rfl rfl ?_
                refine Ev.iadd rfl ?_
                refine Ev.istore rfl rfl rfl ?_
                refine Ev.iinc (d := (-1)) rfl rfl rfl (by decide) rfl ?_
                refine Ev.iinc (d := 1) rfl rfl rfl (by decide) rfl ?_
                refine Ev.goto (tgt := 156) rfl (by decide) ?_
                have hF : (F_m_line_156 T i k0 w g v_along v_bestSum v_bestMany v_bestSize) k z = (z.1 + (((K_m_cuts (tS T i) k0 g (K_m_lines (tS T i) g v_along) v_bestSum v_bestMany v_bestSize).2.2.2 (17 * z.2 + z.1)).toNatClampNeg), z.2 - 1) := by rfl
                rw [hF] at hx
                exact (hx (by show (lpP (tS T i) (K_m_cuts (tS T i) k0 g (K_m_lines (tS T i) g v_along) v_bestSum v_bestMany v_bestSize).2.1 (K_m_cuts (tS T i) k0 g (K_m_lines (tS T i) g v_along) v_bestSum v_bestMany v_bestSize).2.2.1 k0 (k + 1) (z.1 + (((K_m_cuts (tS T i) k0 g (K_m_lines (tS T i) g v_along) v_bestSum v_bestMany v_bestSize).2.2.2 (17 * z.2 + z.1)).toNatClampNeg)) (z.2 - 1)); exact hnx)).fg (gs rfl (gn (gn (gs rfl (gs rfl (gn (gs (congrArg Value.int (nq_add (a := z.1) (b := ((K_m_cuts (tS T i) k0 g (K_m_lines (tS T i) g v_along) v_bestSum v_bestMany v_bestSize).2.2.2 (17 * z.2 + z.1)).toNatClampNeg) rfl rfl).symm) (gs (congrArg Value.int (nq_dec (a := z.2) rfl (rfl : (-1 : Int32) = - nI 1) (by omega)).symm) (gs (congrArg Value.int (show nI (k + 1) = (nI k) + (1 : Int32) from (nq_to (a := k + 1) (nq_add (a := k) (b := 1) rfl (rfl : (1 : Int32) = nI 1)) (by omega)).symm)) (gn gz))))))))))
              · skip
                intro hI
                refine Ev.iload rfl rfl ?_
                refine Ev.iload_n rfl rfl ?_
                refine Ev.bipush (v := 10) rfl (by decide) ?_
                refine Ev.irem rfl (by decide) ?_
                rw [hrem]
                refine Ev.jge (tgt := 196) rfl (by decide) (fun c162 => ?_) (fun c162 => absurd c162 (nI_nlt (Nat.le_refl _) (by omega)))
                refine Ev.aload_n rfl rfl ?_
                refine Ev.getf rfl rfl m0 rfl ?_
                refine Ev.bipush (v := 17) rfl (by decide) ?_
                refine Ev.iload rfl rfl ?_
                refine Ev.imul rfl ?_
                refine Ev.iload rfl rfl ?_
                refine Ev.iadd rfl ?_
                obtain ⟨hz, hz1, hzl, hz2, hnx⟩ := lp_next hwS hk6 hR hrq hI
                refine Ev.ialdN (k := 17 * ((fo (F_m_line_156 T i k0 w g v_along v_bestSum v_bestMany v_bestSize) ((wq w)) 0 (0, k0)).2) + ((fo (F_m_line_156 T i k0 w g v_along v_bestSum v_bestMany v_bestSize) ((wq w)) 0 (0, k0)).1)) rfl m_bestSize (nq_add (a := 17 * ((fo (F_m_line_156 T i k0 w g v_along v_bestSum v_bestMany v_bestSize) ((wq w)) 0 (0, k0)).2)) (b := (fo (F_m_line_156 T i k0 w g v_along v_bestSum v_bestMany v_bestSize) ((wq w)) 0 (0, k0)).1) (nq_mul (a := 17) (b := (fo (F_m_line_156 T i k0 w g v_along v_bestSum v_bestMany v_bestSize) ((wq w)) 0 (0, k0)).2) (rfl : (17 : Int32) = nI 17) rfl) rfl) ⟨(by omega), by decide⟩ ?_
                rw [hz]
                refine Ev.istore rfl rfl rfl ?_
                refine Ev.aload_n rfl rfl ?_
                refine Ev.iload rfl rfl ?_
                refine Ev.iload rfl rfl ?_
                refine Ev.iload rfl rfl ?_
                refine Ev.xV3 rfl rfl m0 rfl rfl (by decide) ⟨(Nat.le_refl _), (Nat.le_refl _)⟩ (m_stretch_ok hM hS hs hwS m_along (by omega) hal) (fun τ4 f1 q1 => ?_)
                obtain ⟨m0, k1⟩ := q1
                have m1 := (k1 _ (by omega)).trans m1
                have m_along := (k1 _ (by omega)).trans m_along
                have m_bestSum := (k1 _ (by omega)).trans m_bestSum
                have m_bestMany := (k1 _ (by omega)).trans m_bestMany
                have m_bestSize := (k1 _ (by omega)).trans m_bestSize
                have kp : (∀ q, q ≠ y → q ≠ y + 4 → q ≠ y + 5 → q ≠ y + 6 → q ≠ y + 7 → τ4.2 q = σ.2 q) := fun q n0 n1 n2 n3 n4 => (k1 q (by omega)).trans (kp q n0 n1 n2 n3 n4)
                have fr := fr.step f1 (by omega) (by omega)
                have hM : isM _ y ((K_m_stretch (tS T i) ((fo (F_m_line_156 T i k0 w g v_along v_bestSum v_bestMany v_bestSize) ((wq w)) 0 (0, k0)).1) (((K_m_cuts (tS T i) k0 g (K_m_lines (tS T i) g v_along) v_bestSum v_bestMany v_bestSize).2.2.2 (17 * ((fo (F_m_line_156 T i k0 w g v_along v_bestSum v_bestMany v_bestSize) ((wq w)) 0 (0, k0)).2) + ((fo (F_m_line_156 T i k0 w g v_along v_bestSum v_bestMany v_bestSize) ((wq w)) 0 (0, k0)).1))).toNatClampNeg) ((K_m_cuts (tS T i) k0 g (K_m_lines (tS T i) g v_along) v_bestSum v_bestMany v_bestSize).1) (K_m_lines (tS T i) g v_along)).2) A := ⟨m0, m1⟩
                refine Ev.istore rfl rfl rfl ?_
                refine Ev.iload_n rfl rfl ?_
                refine Ev.bipush (v := 20) rfl (by decide) ?_
                refine Ev.jge (tgt := 234) rfl (by decide) (fun c226 => ?_) (fun c226 => ?_)
                · skip
                  refine Ev.aload_n rfl rfl ?_
                  refine Ev.getf rfl rfl m0 rfl ?_
                  refine Ev.iret (ty := .int) rfl rfl rfl (Nat.le_refl _) (Nat.le_refl _) ?_
                  have hK : (K_m_line T i k0 w g v_along v_bestSum v_bestMany v_bestSize) = (((K_m_stretch (tS T i) ((fo (F_m_line_156 T i k0 w g v_along v_bestSum v_bestMany v_bestSize) ((wq w)) 0 (0, k0)).1) (((K_m_cuts (tS T i) k0 g (K_m_lines (tS T i) g v_along) v_bestSum v_bestMany v_bestSize).2.2.2 (17 * ((fo (F_m_line_156 T i k0 w g v_along v_bestSum v_bestMany v_bestSize) ((wq w)) 0 (0, k0)).2) + ((fo (F_m_line_156 T i k0 w g v_along v_bestSum v_bestMany v_bestSize) ((wq w)) 0 (0, k0)).1))).toNatClampNeg) ((K_m_cuts (tS T i) k0 g (K_m_lines (tS T i) g v_along) v_bestSum v_bestMany v_bestSize).1) (K_m_lines (tS T i) g v_along)).2) 16, (K_m_stretch (tS T i) ((fo (F_m_line_156 T i k0 w g v_along v_bestSum v_bestMany v_bestSize) ((wq w)) 0 (0, k0)).1) (((K_m_cuts (tS T i) k0 g (K_m_lines (tS T i) g v_along) v_bestSum v_bestMany v_bestSize).2.2.2 (17 * ((fo (F_m_line_156 T i k0 w g v_along v_bestSum v_bestMany v_bestSize) ((wq w)) 0 (0, k0)).2) + ((fo (F_m_line_156 T i k0 w g v_along v_bestSum v_bestMany v_bestSize) ((wq w)) 0 (0, k0)).1))).toNatClampNeg) ((K_m_cuts (tS T i) k0 g (K_m_lines (tS T i) g v_along) v_bestSum v_bestMany v_bestSize).1) (K_m_lines (tS T i) g v_along)).2, (K_m_lines (tS T i) g v_along), (K_m_cuts (tS T i) k0 g (K_m_lines (tS T i) g v_along) v_bestSum v_bestMany v_bestSize).2.1, (K_m_cuts (tS T i) k0 g (K_m_lines (tS T i) g v_along) v_bestSum v_bestMany v_bestSize).2.2.1, (K_m_cuts (tS T i) k0 g (K_m_lines (tS T i) g v_along) v_bestSum v_bestMany v_bestSize).2.2.2) := by
                    unfold K_m_line
                    rw [if_neg c50]
                    rw [if_neg c67]
                    rw [if_neg c82]
                    rw [if_pos c104]
                    rw [if_pos c128]
                    rw [if_neg c142]
                    rw [if_neg c226]
                  rw [← hQ]
                  dsimp only
                  rw [hK]
                  exact ⟨rfl, fr, m0, m_along, m_bestSum, m_bestMany, m_bestSize, kp⟩
                · skip
                  refine Ev.iload rfl rfl ?_
                  refine Ev.goto (tgt := 238) rfl (by decide) ?_
                  refine Ev.iret (ty := .int) rfl rfl rfl (Nat.le_refl _) (Nat.le_refl _) ?_
                  have hK : (K_m_line T i k0 w g v_along v_bestSum v_bestMany v_bestSize) = (nI (((K_m_cuts (tS T i) k0 g (K_m_lines (tS T i) g v_along) v_bestSum v_bestMany v_bestSize).2.2.2 (17 * ((fo (F_m_line_156 T i k0 w g v_along v_bestSum v_bestMany v_bestSize) ((wq w)) 0 (0, k0)).2) + ((fo (F_m_line_156 T i k0 w g v_along v_bestSum v_bestMany v_bestSize) ((wq w)) 0 (0, k0)).1))).toNatClampNeg), (K_m_stretch (tS T i) ((fo (F_m_line_156 T i k0 w g v_along v_bestSum v_bestMany v_bestSize) ((wq w)) 0 (0, k0)).1) (((K_m_cuts (tS T i) k0 g (K_m_lines (tS T i) g v_along) v_bestSum v_bestMany v_bestSize).2.2.2 (17 * ((fo (F_m_line_156 T i k0 w g v_along v_bestSum v_bestMany v_bestSize) ((wq w)) 0 (0, k0)).2) + ((fo (F_m_line_156 T i k0 w g v_along v_bestSum v_bestMany v_bestSize) ((wq w)) 0 (0, k0)).1))).toNatClampNeg) ((K_m_cuts (tS T i) k0 g (K_m_lines (tS T i) g v_along) v_bestSum v_bestMany v_bestSize).1) (K_m_lines (tS T i) g v_along)).2, (K_m_lines (tS T i) g v_along), (K_m_cuts (tS T i) k0 g (K_m_lines (tS T i) g v_along) v_bestSum v_bestMany v_bestSize).2.1, (K_m_cuts (tS T i) k0 g (K_m_lines (tS T i) g v_along) v_bestSum v_bestMany v_bestSize).2.2.1, (K_m_cuts (tS T i) k0 g (K_m_lines (tS T i) g v_along) v_bestSum v_bestMany v_bestSize).2.2.2) := by
                    unfold K_m_line
                    rw [if_neg c50]
                    rw [if_neg c67]
                    rw [if_neg c82]
                    rw [if_pos c104]
                    rw [if_pos c128]
                    rw [if_neg c142]
                    rw [if_pos c226]
                  rw [← hQ]
                  dsimp only
                  rw [hK]
                  exact ⟨rfl, fr, m0, m_along, m_bestSum, m_bestMany, m_bestSize, kp⟩
            · skip
              refine Ev.iconst (v := (-1)) rfl (by decide) ?_
              refine Ev.iret (ty := .int) rfl rfl rfl (Nat.le_refl _) (Nat.le_refl _) ?_
              have hK : (K_m_line T i k0 w g v_along v_bestSum v_bestMany v_bestSize) = ((-1 : Int32), (K_m_cuts (tS T i) k0 g (K_m_lines (tS T i) g v_along) v_bestSum v_bestMany v_bestSize).1, (K_m_lines (tS T i) g v_along), (K_m_cuts (tS T i) k0 g (K_m_lines (tS T i) g v_along) v_bestSum v_bestMany v_bestSize).2.1, (K_m_cuts (tS T i) k0 g (K_m_lines (tS T i) g v_along) v_bestSum v_bestMany v_bestSize).2.2.1, (K_m_cuts (tS T i) k0 g (K_m_lines (tS T i) g v_along) v_bestSum v_bestMany v_bestSize).2.2.2) := by
                unfold K_m_line
                rw [if_neg c50]
                rw [if_neg c67]
                rw [if_neg c82]
                rw [if_pos c104]
                rw [if_pos c128]
                rw [if_pos c142]
              rw [← hQ]
              dsimp only
              rw [hK]
              exact ⟨rfl, fr, m0, m_along, m_bestSum, m_bestMany, m_bestSize, kp⟩
        · skip
          refine Ev.aload_n rfl rfl ?_
          refine Ev.getf rfl rfl m0 rfl ?_
          refine Ev.iload_n rfl rfl ?_
          refine Ev.bipush (v := 30) rfl (by decide) ?_
          refine Ev.isub rfl ?_
          obtain ⟨kk, hkk, -, ekk⟩ := in_ix (A := 30) (n := (tS T i).1) c104 rfl (by rw [show (29 : Int32) = nI 29 from rfl, nI_add]; exact congrArg nI (by omega)) (by omega)
          rw [ekk]
          refine Ev.ialdN (k := kk) rfl m_along rfl ⟨(by omega), by decide⟩ ?_
          rw [show kk = (w - 30).toNatClampNeg from by rw [ekk, nI_clamp (by omega)]]
          refine Ev.iret (ty := .int) rfl rfl rfl (Nat.le_refl _) (Nat.le_refl _) ?_
          have hK : (K_m_line T i k0 w g v_along v_bestSum v_bestMany v_bestSize) = ((K_m_lines (tS T i) g v_along) (w - 30).toNatClampNeg, (K_m_cuts (tS T i) k0 g (K_m_lines (tS T i) g v_along) v_bestSum v_bestMany v_bestSize).1, (K_m_lines (tS T i) g v_along), (K_m_cuts (tS T i) k0 g (K_m_lines (tS T i) g v_along) v_bestSum v_bestMany v_bestSize).2.1, (K_m_cuts (tS T i) k0 g (K_m_lines (tS T i) g v_along) v_bestSum v_bestMany v_bestSize).2.2.1, (K_m_cuts (tS T i) k0 g (K_m_lines (tS T i) g v_along) v_bestSum v_bestMany v_bestSize).2.2.2) := by
            unfold K_m_line
            rw [if_neg c50]
            rw [if_neg c67]
            rw [if_neg c82]
            rw [if_neg c104]
          rw [← hQ]
          dsimp only
          rw [hK]
          exact ⟨rfl, fr, m0, m_along, m_bestSum, m_bestMany, m_bestSize, kp⟩
      · skip
        refine Ev.iload rfl rfl ?_
        refine Ev.iret (ty := .int) rfl rfl rfl (Nat.le_refl _) (Nat.le_refl _) ?_
        have hK : (K_m_line T i k0 w g v_along v_bestSum v_bestMany v_bestSize) = (((K_m_cuts (tS T i) k0 g (K_m_lines (tS T i) g v_along) v_bestSum v_bestMany v_bestSize).2.2.1) (17 * k0), (K_m_cuts (tS T i) k0 g (K_m_lines (tS T i) g v_along) v_bestSum v_bestMany v_bestSize).1, (K_m_lines (tS T i) g v_along), (K_m_cuts (tS T i) k0 g (K_m_lines (tS T i) g v_along) v_bestSum v_bestMany v_bestSize).2.1, (K_m_cuts (tS T i) k0 g (K_m_lines (tS T i) g v_along) v_bestSum v_bestMany v_bestSize).2.2.1, (K_m_cuts (tS T i) k0 g (K_m_lines (tS T i) g v_along) v_bestSum v_bestMany v_bestSize).2.2.2) := by
          unfold K_m_line
          rw [if_neg c50]
          rw [if_neg c67]
          rw [if_pos c82]
        rw [← hQ]
        dsimp only
        rw [hK]
        exact ⟨rfl, fr, m0, m_along, m_bestSum, m_bestMany, m_bestSize, kp⟩
    · skip
      refine Ev.aload_n rfl rfl ?_
      refine Ev.getf rfl rfl m0 rfl ?_
      refine Ev.bipush (v := 17) rfl (by decide) ?_
      refine Ev.iload_n rfl rfl ?_
      refine Ev.imul rfl ?_
      refine Ev.ialdN (k := 17 * k0) rfl m_bestSum (nq_mul (a := 17) (b := k0) (rfl : (17 : Int32) = nI 17) rfl) ⟨(by omega), by decide⟩ ?_
      refine Ev.iret (ty := .int) rfl rfl rfl (Nat.le_refl _) (Nat.le_refl _) ?_
      have hK : (K_m_line T i k0 w g v_along v_bestSum v_bestMany v_bestSize) = (((K_m_cuts (tS T i) k0 g (K_m_lines (tS T i) g v_along) v_bestSum v_bestMany v_bestSize).2.1) (17 * k0), (K_m_cuts (tS T i) k0 g (K_m_lines (tS T i) g v_along) v_bestSum v_bestMany v_bestSize).1, (K_m_lines (tS T i) g v_along), (K_m_cuts (tS T i) k0 g (K_m_lines (tS T i) g v_along) v_bestSum v_bestMany v_bestSize).2.1, (K_m_cuts (tS T i) k0 g (K_m_lines (tS T i) g v_along) v_bestSum v_bestMany v_bestSize).2.2.1, (K_m_cuts (tS T i) k0 g (K_m_lines (tS T i) g v_along) v_bestSum v_bestMany v_bestSize).2.2.2) := by
        unfold K_m_line
        rw [if_neg c50]
        rw [if_pos c67]
      rw [← hQ]
      dsimp only
      rw [hK]
      exact ⟨rfl, fr, m0, m_along, m_bestSum, m_bestMany, m_bestSize, kp⟩
  · skip
    refine Ev.iconst (v := (-1)) rfl (by decide) ?_
    refine Ev.iret (ty := .int) rfl rfl rfl (Nat.le_refl _) (Nat.le_refl _) ?_
    have hK : (K_m_line T i k0 w g v_along v_bestSum v_bestMany v_bestSize) = ((-1 : Int32), (K_m_cuts (tS T i) k0 g (K_m_lines (tS T i) g v_along) v_bestSum v_bestMany v_bestSize).1, (K_m_lines (tS T i) g v_along), (K_m_cuts (tS T i) k0 g (K_m_lines (tS T i) g v_along) v_bestSum v_bestMany v_bestSize).2.1, (K_m_cuts (tS T i) k0 g (K_m_lines (tS T i) g v_along) v_bestSum v_bestMany v_bestSize).2.2.1, (K_m_cuts (tS T i) k0 g (K_m_lines (tS T i) g v_along) v_bestSum v_bestMany v_bestSize).2.2.2) := by
      unfold K_m_line
      rw [if_pos c50]
    rw [← hQ]
    dsimp only
    rw [hK]
    exact ⟨rfl, fr, m0, m_along, m_bestSum, m_bestMany, m_bestSize, kp⟩
end
end
