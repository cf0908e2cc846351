/-! Texts of schools: lines, what they tell, and how the reference's row keeps it. -/
noncomputable section
def LOl : List Nat := [0, 1, 0, 0, 0, 0, 0, 0, 0, 0, 0, 0, 1, 0, 0, 0, 0, 0, 0, 0, 1, 0, 0, 0, 1, 0, 0, 0, 1, 1, 0, 0, 1, 0, 0, 0, 0, 0, 0, 0, 0, 0, 0, 0, 1, 0, 0, 0, 0, 0, 0, 0, 0, 0, 0, 0, 0, 0, 0, 0, 0, 0, 0, 0, 0, 0, 0, 0, 0, 0, 0, 0, 0, 0, 0, 0, 0, 0, 0, 0, 0, 0, 0, 0]
def HIl : List Nat := [11, 63, 999, 0, 15, 15, 0, 0, 15, 100, 0, 0, 63, 3, 0, 0, 3, 99, 100, 0, 3, 99, 100, 0, 15, 20, 0, 0, 15, 15, 0, 0, 9, 0, 0, 0, 999, 0, 0, 0, 999, 0, 0, 0, 30, 0, 0, 0, 99, 0, 0, 0, 99, 0, 0, 0, 200, 0, 0, 0, 4, 5, 11, 0, 4, 5, 11, 11, 4, 5, 11, 0, 4, 5, 11, 0, 4, 5, 11, 0, 15, 0, 0, 0]
def NUl : List Nat := [3, 2, 2, 2, 3, 3, 2, 2, 1, 1, 1, 1, 1, 1, 1, 3, 4, 3, 3, 3, 1]
/-- whether number j of a line of kind k can be v -/
def gds (k j n0 L v : Nat) : Bool := if k = 1 then decide (v < L) && (decide (j = 0) || !decide (v = n0)) else if k = 2 ∧ j = 0 then decide (v < L) else if k = 7 ∧ j = 1 then decide (1 ≤ v) && decide (v ≤ 15) && decide (n0 ≤ v) else decide (LOl.getD (k * 4 + j) 0 ≤ v) && decide (v ≤ HIl.getD (k * 4 + j) 0)
/-- the reading behind j numbers of a line -/
def chn (U : Nat → Nat) (n k L : Nat) (s : Rs) : Nat → Rs
  | 0 => s
  | j + 1 => nst U n (gds k j (tV U n (Re s)) L (tV U n (Re (chn U n k L s j)))) (chn U n k L s j)
/-- a line's numbers -/
def nus (U : Nat → Nat) (n k L : Nat) (s : Rs) (j : Nat) : Nat := tV U n (Re (chn U n k L s j))
/-- a school with another row -/
def S_ar (S : Sch) (j : Nat) (f : Nat → Int32) : Sch := (S.1, S.2.1, fun i => if i = j then f else S.2.2 i)
def lvF (n : Nat) (f : Nat → Int32) (p : Int32) : Nat → Int32 := if p < 0 then f else if nI n ≤ p then f else upd f p.toNatClampNeg (-1)
def cplF (n : Nat) (f : Nat → Int32) (a b : Nat) : Nat → Int32 := upd (upd (lvF n (lvF n f (f a)) (lvF n f (f a) b)) a (nI b)) b (nI a)
def Ln0 (a b c : Nat) (S : Sch) : Sch := (S.1 + 1, S.2.1, fun j => if j = 0 then upd (S.2.2 0) S.1 (nI a) else if j = 1 then upd (S.2.2 1) S.1 (nI b) else if j = 2 then upd (S.2.2 2) S.1 (nI c) else if j = 3 then upd (S.2.2 3) S.1 (-1) else if j = 4 then upd (S.2.2 4) S.1 0 else S.2.2 j)
def Ln3 (a b : Nat) (S : Sch) : Sch := (S.1, S.2.1 + 1, fun j => if j = 5 then upd (S.2.2 5) S.2.1 (nI a) else if j = 6 then upd (S.2.2 6) S.2.1 (nI b) else S.2.2 j)
def Ln4 (d b c : Nat) (S : Sch) : Sch := (S.1, S.2.1, fun j => if j = 7 then upd (S.2.2 7) d (nI b) else if j = 8 then upd (S.2.2 8) d (nI c) else S.2.2 j)
/-- what a line tells -/
def LnF (k : Nat) (nu : Nat → Nat) (S : Sch) : Sch := if k = 0 then Ln0 (nu 0) (nu 1) (nu 2) S else if k = 1 then S_ar S 3 (cplF S.1 (S.2.2 3) (nu 0) (nu 1)) else if k = 2 then S_ar S 4 (upd (S.2.2 4) (nu 0) (nI (nu 1))) else if k = 3 then Ln3 (nu 0) (nu 1) S else if k = 4 then Ln4 (3 + nu 0) (nu 1) (nu 2) S else if k = 5 then Ln4 (3 - nu 0) (nu 1) (nu 2) S else if k = 6 then S_ar S 9 (upd (upd (S.2.2 9) 0 (nI (nu 0))) 1 (nI (nu 1))) else if k = 7 then S_ar S 9 (upd (upd (S.2.2 9) 2 (nI (nu 0))) 3 (nI (nu 1))) else S_ar S 9 (upd (S.2.2 9) (k - 4) (nI (nu 0)))
/-- the reference's row may be read on: b bounds what it counts -/
def SF (b : Nat) (rd : Nat → Int32) : Prop := (∃ L, rd 0 = nI L ∧ L ≤ b) ∧ (∃ t, rd 1 = nI t ∧ t ≤ b) ∧ (∀ i, i < 16 → rd (61 + i) = -1 ∨ ∃ q, q < 16 ∧ rd (61 + i) = nI q) ∧ ∃ l, rd 4 = nI l ∧ 1 ≤ l ∧ l ≤ 15
theorem SF.mono {b b' : Nat} {rd : Nat → Int32} (h : SF b rd) (hb : b ≤ b') : SF b' rd := by
  obtain ⟨⟨L, h1, h2⟩, ⟨t, h3, h4⟩, h5, h6⟩ := h
  exact ⟨⟨L, h1, by omega⟩, ⟨t, h3, by omega⟩, h5, h6⟩
/-- another place of the row changes -/
theorem SF.put {b k : Nat} {rd : Nat → Int32} {v : Int32} (h : SF b rd) (hk : k ≠ 0 ∧ k ≠ 1 ∧ k ≠ 4 ∧ (k < 61 ∨ 77 ≤ k)) : SF b (upd rd k v) := by
  obtain ⟨⟨L, h1, h2⟩, ⟨t, h3, h4⟩, h5, l, h6, h7⟩ := h
  refine ⟨⟨L, (pk_un (by omega)).trans h1, h2⟩, ⟨t, (pk_un (by omega)).trans h3, h4⟩, fun i hi => ?_, l, (pk_un (by omega)).trans h6, h7⟩
  rw [pk_un (show 61 + i ≠ k by omega)]
  exact h5 i hi
theorem SF.mate {b k : Nat} {rd : Nat → Int32} {v : Int32} (h : SF b rd) (hk : k < 16) (hv : v = -1 ∨ ∃ q, q < 16 ∧ v = nI q) : SF b (upd rd (61 + k) v) := by
  obtain ⟨⟨L, h1, h2⟩, ⟨t, h3, h4⟩, h5, l, h6, h7⟩ := h
  refine ⟨⟨L, (pk_un (by omega)).trans h1, h2⟩, ⟨t, (pk_un (by omega)).trans h3, h4⟩, fun i hi => ?_, l, (pk_un (by omega)).trans h6, h7⟩
  by_cases e : i = k
  · subst e
    rw [pk_us]
    exact hv
  · rw [pk_un (show 61 + i ≠ 61 + k by omega)]
    exact h5 i hi
theorem SF.cnt0 {b L : Nat} {rd : Nat → Int32} (h : SF b rd) (hL : L ≤ b) : SF b (upd rd 0 (nI L)) := by
  obtain ⟨-, ⟨t, h3, h4⟩, h5, l, h6, h7⟩ := h
  refine ⟨⟨L, pk_us, hL⟩, ⟨t, (pk_un (by omega)).trans h3, h4⟩, fun i hi => ?_, l, (pk_un (by omega)).trans h6, h7⟩
  rw [pk_un (show 61 + i ≠ 0 by omega)]
  exact h5 i hi
theorem SF.cnt1 {b L : Nat} {rd : Nat → Int32} (h : SF b rd) (hL : L ≤ b) : SF b (upd rd 1 (nI L)) := by
  obtain ⟨⟨t, h3, h4⟩, -, h5, l, h6, h7⟩ := h
  refine ⟨⟨t, (pk_un (by omega)).trans h3, h4⟩, ⟨L, pk_us, hL⟩, fun i hi => ?_, l, (pk_un (by omega)).trans h6, h7⟩
  rw [pk_un (show 61 + i ≠ 1 by omega)]
  exact h5 i hi
theorem SF.lst {b L : Nat} {rd : Nat → Int32} (h : SF b rd) (hL : 1 ≤ L ∧ L ≤ 15) : SF b (upd rd 4 (nI L)) := by
  obtain ⟨⟨q, h1, h2⟩, ⟨t, h3, h4⟩, h5, -⟩ := h
  refine ⟨⟨q, (pk_un (by omega)).trans h1, h2⟩, ⟨t, (pk_un (by omega)).trans h3, h4⟩, fun i hi => ?_, L, pk_us, hL⟩
  rw [pk_un (show 61 + i ≠ 4 by omega)]
  exact h5 i hi
section
variable {S : Sch} {rd : Nat → Int32}
/-- a learner's line in the reference's row -/
theorem mS_0 {a b c : Nat} (h : mS rd 0 S) (h16 : S.1 < 16) (h5 : S.2.1 ≤ 5) : mS (upd (upd (upd (upd (upd (upd rd (13 + S.1) (nI a)) (29 + S.1) (nI b)) (45 + S.1) (nI c)) (61 + S.1) (-1)) (77 + S.1) 0) 0 (nI (S.1 + 1))) 0 (Ln0 a b c S) := by
  obtain ⟨m0, m1, m2, m3, m4, m5⟩ := h
  have far : ∀ q, q ≠ 0 → q ≠ 13 + S.1 → q ≠ 29 + S.1 → q ≠ 45 + S.1 → q ≠ 61 + S.1 → q ≠ 77 + S.1 → upd (upd (upd (upd (upd (upd rd (13 + S.1) (nI a)) (29 + S.1) (nI b)) (45 + S.1) (nI c)) (61 + S.1) (-1)) (77 + S.1) 0) 0 (nI (S.1 + 1)) q = rd q := fun q h1 h2 h3 h4 h5 h6 => (pk_un h1).trans ((pk_un h6).trans ((pk_un h5).trans ((pk_un h4).trans ((pk_un h3).trans (pk_un h2)))))
  refine ⟨pk_us, (far _ (by omega) (by omega) (by omega) (by omega) (by omega) (by omega)).trans m1, fun j hj => (far _ (by omega) (by omega) (by omega) (by omega) (by omega) (by omega)).trans (m2 j hj), fun i hi => ?_, fun i hi => ?_, fun d hd => ?_⟩
  · have hi : i < S.1 + 1 := hi
    by_cases e : i = S.1
    · subst e
      refine ⟨?_, ?_, ?_, ?_, ?_⟩
      · refine ((pk_un (by omega)).trans ((pk_un (by omega)).trans ((pk_un (by omega)).trans ((pk_un (by omega)).trans ((pk_un (by omega)).trans ?_))))).trans (show nI a = upd (S.2.2 0) S.1 (nI a) S.1 from pk_us.symm)
        rw [show 0 + 13 + S.1 = 13 + S.1 by omega]
        exact pk_us
      · refine ((pk_un (by omega)).trans ((pk_un (by omega)).trans ((pk_un (by omega)).trans ((pk_un (by omega)).trans ?_)))).trans (show nI b = upd (S.2.2 1) S.1 (nI b) S.1 from pk_us.symm)
        rw [show 0 + 29 + S.1 = 29 + S.1 by omega]
        exact pk_us
      · refine ((pk_un (by omega)).trans ((pk_un (by omega)).trans ((pk_un (by omega)).trans ?_))).trans (show nI c = upd (S.2.2 2) S.1 (nI c) S.1 from pk_us.symm)
        rw [show 0 + 45 + S.1 = 45 + S.1 by omega]
        exact pk_us
      · refine ((pk_un (by omega)).trans ((pk_un (by omega)).trans ?_)).trans (show (-1 : Int32) = upd (S.2.2 3) S.1 (-1) S.1 from pk_us.symm)
        rw [show 0 + 61 + S.1 = 61 + S.1 by omega]
        exact pk_us
      · refine ((pk_un (by omega)).trans ?_).trans (show (0 : Int32) = upd (S.2.2 4) S.1 0 S.1 from pk_us.symm)
        rw [show 0 + 77 + S.1 = 77 + S.1 by omega]
        exact pk_us
    · obtain ⟨e1, e2, e3, e4, e5⟩ := m3 i (by omega)
      have f : ∀ v (f : Nat → Int32), f i = upd f S.1 v i := fun v f => (pk_un e).symm
      exact ⟨((far _ (by omega) (by omega) (by omega) (by omega) (by omega) (by omega)).trans e1).trans (f _ _), ((far _ (by omega) (by omega) (by omega) (by omega) (by omega) (by omega)).trans e2).trans (f _ _), ((far _ (by omega) (by omega) (by omega) (by omega) (by omega) (by omega)).trans e3).trans (f _ _), ((far _ (by omega) (by omega) (by omega) (by omega) (by omega) (by omega)).trans e4).trans (f _ _), ((far _ (by omega) (by omega) (by omega) (by omega) (by omega) (by omega)).trans e5).trans (f _ _)⟩
  · have hi : i < S.2.1 := hi
    obtain ⟨e1, e2⟩ := m4 i hi
    exact ⟨(far _ (by omega) (by omega) (by omega) (by omega) (by omega) (by omega)).trans e1, (far _ (by omega) (by omega) (by omega) (by omega) (by omega) (by omega)).trans e2⟩
  · obtain ⟨e1, e2⟩ := m5 d hd
    exact ⟨(far _ (by omega) (by omega) (by omega) (by omega) (by omega) (by omega)).trans e1, (far _ (by omega) (by omega) (by omega) (by omega) (by omega) (by omega)).trans e2⟩
/-- a teacher's line -/
theorem mS_3 {a b : Nat} (h : mS rd 0 S) (h16 : S.1 ≤ 16) (h5 : S.2.1 < 5) : mS (upd (upd (upd rd (93 + S.2.1) (nI a)) (98 + S.2.1) (nI b)) 1 (nI (S.2.1 + 1))) 0 (Ln3 a b S) := by
  obtain ⟨m0, m1, m2, m3, m4, m5⟩ := h
  have far : ∀ q, q ≠ 1 → q ≠ 93 + S.2.1 → q ≠ 98 + S.2.1 → upd (upd (upd rd (93 + S.2.1) (nI a)) (98 + S.2.1) (nI b)) 1 (nI (S.2.1 + 1)) q = rd q := fun q h1 h2 h3 => (pk_un h1).trans ((pk_un h3).trans (pk_un h2))
  refine ⟨(far _ (by omega) (by omega) (by omega)).trans m0, pk_us, fun j hj => (far _ (by omega) (by omega) (by omega)).trans (m2 j hj), fun i hi => ?_, fun i hi => ?_, fun d hd => ?_⟩
  · have hi : i < S.1 := hi
    obtain ⟨e1, e2, e3, e4, e5⟩ := m3 i hi
    exact ⟨(far _ (by omega) (by omega) (by omega)).trans e1, (far _ (by omega) (by omega) (by omega)).trans e2, (far _ (by omega) (by omega) (by omega)).trans e3, (far _ (by omega) (by omega) (by omega)).trans e4, (far _ (by omega) (by omega) (by omega)).trans e5⟩
  · have hi : i < S.2.1 + 1 := hi
    by_cases e : i = S.2.1
    · subst e
      refine ⟨?_, ?_⟩
      · refine ((pk_un (by omega)).trans ((pk_un (by omega)).trans ?_)).trans (show nI a = upd (S.2.2 5) S.2.1 (nI a) S.2.1 from pk_us.symm)
        rw [show 0 + 93 + S.2.1 = 93 + S.2.1 by omega]
        exact pk_us
      · refine ((pk_un (by omega)).trans ?_).trans (show nI b = upd (S.2.2 6) S.2.1 (nI b) S.2.1 from pk_us.symm)
        rw [show 0 + 98 + S.2.1 = 98 + S.2.1 by omega]
        exact pk_us
    · obtain ⟨e1, e2⟩ := m4 i (by omega)
      exact ⟨((far _ (by omega) (by omega) (by omega)).trans e1).trans (show S.2.2 5 i = upd (S.2.2 5) S.2.1 (nI a) i from (pk_un e).symm), ((far _ (by omega) (by omega) (by omega)).trans e2).trans (show S.2.2 6 i = upd (S.2.2 6) S.2.1 (nI b) i from (pk_un e).symm)⟩
  · obtain ⟨e1, e2⟩ := m5 d hd
    exact ⟨(far _ (by omega) (by omega) (by omega)).trans e1, (far _ (by omega) (by omega) (by omega)).trans e2⟩
/-- a line of the tables -/
theorem mS_4 {d b c : Nat} (h : mS rd 0 S) (h16 : S.1 ≤ 16) (h5 : S.2.1 ≤ 5) (hd : d < 7) : mS (upd (upd rd (103 + d) (nI b)) (110 + d) (nI c)) 0 (Ln4 d b c S) := by
  obtain ⟨m0, m1, m2, m3, m4, m5⟩ := h
  have far : ∀ q, q ≠ 103 + d → q ≠ 110 + d → upd (upd rd (103 + d) (nI b)) (110 + d) (nI c) q = rd q := fun q h1 h2 => (pk_un h2).trans (pk_un h1)
  refine ⟨(far _ (by omega) (by omega)).trans m0, (far _ (by omega) (by omega)).trans m1, fun j hj => (far _ (by omega) (by omega)).trans (m2 j hj), fun i hi => ?_, fun i hi => ?_, fun q hq => ?_⟩
  · have hi : i < S.1 := hi
    obtain ⟨e1, e2, e3, e4, e5⟩ := m3 i hi
    exact ⟨(far _ (by omega) (by omega)).trans e1, (far _ (by omega) (by omega)).trans e2, (far _ (by omega) (by omega)).trans e3, (far _ (by omega) (by omega)).trans e4, (far _ (by omega) (by omega)).trans e5⟩
  · have hi : i < S.2.1 := hi
    obtain ⟨e1, e2⟩ := m4 i hi
    exact ⟨(far _ (by omega) (by omega)).trans e1, (far _ (by omega) (by omega)).trans e2⟩
  · by_cases e : q = d
    · subst e
      refine ⟨?_, ?_⟩
      · refine ((pk_un (by omega)).trans ?_).trans (show nI b = upd (S.2.2 7) q (nI b) q from pk_us.symm)
        rw [show 0 + 103 + q = 103 + q by omega]
        exact pk_us
      · refine Eq.trans ?_ (show nI c = upd (S.2.2 8) q (nI c) q from pk_us.symm)
        rw [show 0 + 110 + q = 110 + q by omega]
        exact pk_us
    · obtain ⟨e1, e2⟩ := m5 q hq
      exact ⟨((far _ (by omega) (by omega)).trans e1).trans (show S.2.2 7 q = upd (S.2.2 7) d (nI b) q from (pk_un e).symm), ((far _ (by omega) (by omega)).trans e2).trans (show S.2.2 8 q = upd (S.2.2 8) d (nI c) q from (pk_un e).symm)⟩
/-- a rule -/
theorem mS_9 {j : Nat} {v : Int32} (h : mS rd 0 S) (h16 : S.1 ≤ 16) (h5 : S.2.1 ≤ 5) (hj : j < 11) : mS (upd rd (2 + j) v) 0 (S_ar S 9 (upd (S.2.2 9) j v)) := by
  obtain ⟨m0, m1, m2, m3, m4, m5⟩ := h
  have far : ∀ q, q ≠ 2 + j → upd rd (2 + j) v q = rd q := fun q h1 => pk_un h1
  refine ⟨(far _ (by omega)).trans m0, (far _ (by omega)).trans m1, fun i hi => ?_, fun i hi => ?_, fun i hi => ?_, fun q hq => ?_⟩
  · show upd rd (2 + j) v (0 + 2 + i) = upd (S.2.2 9) j v i
    by_cases e : i = j
    · subst e
      rw [show 0 + 2 + i = 2 + i by omega, pk_us, pk_us]
    · rw [pk_un e]
      exact (far _ (by omega)).trans (m2 i hi)
  · have hi : i < S.1 := hi
    obtain ⟨e1, e2, e3, e4, e5⟩ := m3 i hi
    exact ⟨(far _ (by omega)).trans e1, (far _ (by omega)).trans e2, (far _ (by omega)).trans e3, (far _ (by omega)).trans e4, (far _ (by omega)).trans e5⟩
  · have hi : i < S.2.1 := hi
    obtain ⟨e1, e2⟩ := m4 i hi
    exact ⟨(far _ (by omega)).trans e1, (far _ (by omega)).trans e2⟩
  · obtain ⟨e1, e2⟩ := m5 q hq
    exact ⟨(far _ (by omega)).trans e1, (far _ (by omega)).trans e2⟩
/-- a chance -/
theorem mS_2 {a : Nat} {v : Int32} (h : mS rd 0 S) (h16 : S.1 ≤ 16) (h5 : S.2.1 ≤ 5) (ha : a < S.1) : mS (upd rd (77 + a) v) 0 (S_ar S 4 (upd (S.2.2 4) a v)) := by
  obtain ⟨m0, m1, m2, m3, m4, m5⟩ := h
  have far : ∀ q, q ≠ 77 + a → upd rd (77 + a) v q = rd q := fun q h1 => pk_un h1
  refine ⟨(far _ (by omega)).trans m0, (far _ (by omega)).trans m1, fun i hi => (far _ (by omega)).trans (m2 i hi), fun i hi => ?_, fun i hi => ?_, fun q hq => ?_⟩
  · have hi : i < S.1 := hi
    obtain ⟨e1, e2, e3, e4, e5⟩ := m3 i hi
    refine ⟨(far _ (by omega)).trans e1, (far _ (by omega)).trans e2, (far _ (by omega)).trans e3, (far _ (by omega)).trans e4, ?_⟩
    show upd rd (77 + a) v (0 + 77 + i) = upd (S.2.2 4) a v i
    by_cases e : i = a
    · subst e
      rw [show 0 + 77 + i = 77 + i by omega, pk_us, pk_us]
    · rw [pk_un e]
      exact (far _ (by omega)).trans e5
  · have hi : i < S.2.1 := hi
    obtain ⟨e1, e2⟩ := m4 i hi
    exact ⟨(far _ (by omega)).trans e1, (far _ (by omega)).trans e2⟩
  · obtain ⟨e1, e2⟩ := m5 q hq
    exact ⟨(far _ (by omega)).trans e1, (far _ (by omega)).trans e2⟩
/-- partners: any row that says the same of the learners -/
theorem mS_1 {rd' f : Nat → Int32} (h : mS rd 0 S) (h16 : S.1 ≤ 16) (h5 : S.2.1 ≤ 5) (far : ∀ q, q < 61 ∨ 77 ≤ q → rd' q = rd q) (hf : ∀ i, i < S.1 → rd' (61 + i) = f i) : mS rd' 0 (S_ar S 3 f) := by
  obtain ⟨m0, m1, m2, m3, m4, m5⟩ := h
  refine ⟨(far _ (by omega)).trans m0, (far _ (by omega)).trans m1, fun i hi => (far _ (by omega)).trans (m2 i hi), fun i hi => ?_, fun i hi => ?_, fun q hq => ?_⟩
  · have hi : i < S.1 := hi
    obtain ⟨e1, e2, e3, e4, e5⟩ := m3 i hi
    refine ⟨(far _ (by omega)).trans e1, (far _ (by omega)).trans e2, (far _ (by omega)).trans e3, ?_, (far _ (by omega)).trans e5⟩
    rw [show 0 + 61 + i = 61 + i by omega]
    exact hf i hi
  · have hi : i < S.2.1 := hi
    obtain ⟨e1, e2⟩ := m4 i hi
    exact ⟨(far _ (by omega)).trans e1, (far _ (by omega)).trans e2⟩
  · obtain ⟨e1, e2⟩ := m5 q hq
    exact ⟨(far _ (by omega)).trans e1, (far _ (by omega)).trans e2⟩
end
end
