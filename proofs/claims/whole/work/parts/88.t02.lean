/-! What holds between two calls: both objects, piece by piece. -/
noncomputable section
theorem Ret.imp {Γ : ex_G} {z mc ms : Nat} {as : List Value} {σ : ex_S} {Q Q' : Option Value → ex_S → Prop} (h : Ret Γ z mc ms as σ Q) (hQ : ∀ r τ, Q r τ → Q' r τ) : Ret Γ z mc ms as σ Q' := by
  intro l
  refine MetFree.mono (h l) (fun _ _ q => q) (fun _ _ _ _ _ q => q) (fun a s o s' _ q => ?_)
  obtain ⟨⟨v, σ', a1, a2, a3⟩, b⟩ := q
  exact ⟨⟨v, σ', a1, hQ _ _ a2, a3⟩, b⟩
/-- the tape's bytes are bytes -/
def fitT (T : Tol) : Prop := ∀ i, i < 600 → rg (tB T i) (-128) 127
def cR (σ : ex_S) (x : Nat) : Prop := ∃ (S : Sch) (Q : Pln) (nu : Nat → Int32) (tv : Value) (i1 : Int32) (i2 : Int32) (i3 : Int32) (i4 : Int32) (i5 : Int32) (i6 : Int32) (i7 : Int32) (i8 : Int32), σ.2 (x + 63) = some (.inr (.inr (5, [.ref (x + 64), .ref (x + 75), .int i1, .int i2, tv, .int i3, .int i4, .int i5, .int i6, .int i7, .ref (x + 83), .int i8]))) ∧ isS σ (x + 64) S ∧ isP σ (x + 75) Q ∧ σ.2 (x + 83) = some (.inl (0, 4, nu)) ∧ (tv = .null ∨ tv = .ref (x + 2))
theorem cR.frm {σ τ : ex_S} {x lo hi : Nat} (h : cR σ x) (hf : frm σ τ lo hi) (hc : x + 84 ≤ lo ∨ hi ≤ x + 63) : cR τ x := by
  obtain ⟨S, Q, nu, tv, i1, i2, i3, i4, i5, i6, i7, i8, e0, e1, e2, e3, p0⟩ := h
  exact ⟨S, Q, nu, tv, i1, i2, i3, i4, i5, i6, i7, i8, frm.cell hf e0 (by omega), e1.frm hf (by omega), e2.frm hf (by omega), frm.cell hf e3 (by omega), p0⟩
def cS (σ : ex_S) (x : Nat) : Prop := ∃ (D : Sch), isS σ (x + 84) D
theorem cS.frm {σ τ : ex_S} {x lo hi : Nat} (h : cS σ x) (hf : frm σ τ lo hi) (hc : x + 95 ≤ lo ∨ hi ≤ x + 84) : cS τ x := by
  obtain ⟨D, e0⟩ := h
  exact ⟨D, e0.frm hf (by omega)⟩
def cL (σ : ex_S) (x : Nat) : Prop := ∃ (C : Les), isL σ (x + 95) C
theorem cL.frm {σ τ : ex_S} {x lo hi : Nat} (h : cL σ x) (hf : frm σ τ lo hi) (hc : x + 96 ≤ lo ∨ hi ≤ x + 95) : cL τ x := by
  obtain ⟨C, e0⟩ := h
  exact ⟨C, e0.frm hf (by omega)⟩
def cN (σ : ex_S) (x : Nat) : Prop := ∃ (n0 : Nat) (c0 : Nat) (lt : Int32) (u : Int32) (D : Les) (ro : Nat → Int32) (wo : Nat → Int32) (ws : Nat → Int32) (be : Nat → Int32) (sz : Nat → Int32) (st : Nat → Int32), σ.2 (x + 96) = some (.inr (.inr (6, [.ref (x + 96 + 1), .ref (x + 96 + 2), .ref (x + 96 + 3), .ref (x + 96 + 4), .ref (x + 96 + 5), .ref (x + 96 + 6), .ref (x + 96 + 7), .int (nI n0), .int (nI c0), .int lt]))) ∧ σ.2 (x + 96 + 1) = some (.inl (0, 16, ro)) ∧ σ.2 (x + 96 + 2) = some (.inl (0, 272, wo)) ∧ σ.2 (x + 96 + 3) = some (.inl (0, 272, ws)) ∧ σ.2 (x + 96 + 4) = some (.inl (0, 119, be)) ∧ σ.2 (x + 96 + 5) = some (.inl (0, 6, sz)) ∧ σ.2 (x + 96 + 6) = some (.inl (0, 6, st)) ∧ isL σ (x + 96 + 7) (L_set D 3 u) ∧ D 0 = 0
theorem cN.frm {σ τ : ex_S} {x lo hi : Nat} (h : cN σ x) (hf : frm σ τ lo hi) (hc : x + 104 ≤ lo ∨ hi ≤ x + 96) : cN τ x := by
  obtain ⟨n0, c0, lt, u, D, ro, wo, ws, be, sz, st, e0, e1, e2, e3, e4, e5, e6, e7, p0⟩ := h
  exact ⟨n0, c0, lt, u, D, ro, wo, ws, be, sz, st, frm.cell hf e0 (by omega), frm.cell hf e1 (by omega), frm.cell hf e2 (by omega), frm.cell hf e3 (by omega), frm.cell hf e4 (by omega), frm.cell hf e5 (by omega), frm.cell hf e6 (by omega), e7.frm hf (by omega), p0⟩
def cH (σ : ex_S) (x : Nat) : Prop := ∃ (n0 : Nat) (wo : Nat → Int32) (be : Nat → Int32) (we : Nat → Int32), σ.2 (x + 104) = some (.inr (.inr (7, [.ref (x + 104 + 1), .int (nI n0), .ref (x + 104 + 2), .ref (x + 104 + 3)]))) ∧ σ.2 (x + 104 + 1) = some (.inl (0, 8, wo)) ∧ σ.2 (x + 104 + 2) = some (.inl (0, 256, be)) ∧ σ.2 (x + 104 + 3) = some (.inl (0, 256, we))
theorem cH.frm {σ τ : ex_S} {x lo hi : Nat} (h : cH σ x) (hf : frm σ τ lo hi) (hc : x + 108 ≤ lo ∨ hi ≤ x + 104) : cH τ x := by
  obtain ⟨n0, wo, be, we, e0, e1, e2, e3⟩ := h
  exact ⟨n0, wo, be, we, frm.cell hf e0 (by omega), frm.cell hf e1 (by omega), frm.cell hf e2 (by omega), frm.cell hf e3 (by omega)⟩
def cE (σ : ex_S) (x : Nat) : Prop := ∃ (xv : Int32) (si : Nat → Int32) (en : Nat → Int32), σ.2 (x + 112) = some (.inr (.inr (9, [.int xv, .ref (x + 112 + 1), .ref (x + 112 + 2)]))) ∧ σ.2 (x + 112 + 1) = some (.inl (0, 6, si)) ∧ σ.2 (x + 112 + 2) = some (.inl (0, 6, en))
theorem cE.frm {σ τ : ex_S} {x lo hi : Nat} (h : cE σ x) (hf : frm σ τ lo hi) (hc : x + 115 ≤ lo ∨ hi ≤ x + 112) : cE τ x := by
  obtain ⟨xv, si, en, e0, e1, e2⟩ := h
  exact ⟨xv, si, en, frm.cell hf e0 (by omega), frm.cell hf e1 (by omega), frm.cell hf e2 (by omega)⟩
def cF (σ : ex_S) (x : Nat) : Prop := ∃ (f : Nat → Int32), σ.2 (x + 115) = some (.inl (0, 3, f))
theorem cF.frm {σ τ : ex_S} {x lo hi : Nat} (h : cF σ x) (hf : frm σ τ lo hi) (hc : x + 116 ≤ lo ∨ hi ≤ x + 115) : cF τ x := by
  obtain ⟨f, e0⟩ := h
  exact ⟨f, frm.cell hf e0 (by omega)⟩
def cW (σ : ex_S) (x : Nat) : Prop := ∃ (f : Nat → Int32), σ.2 (x + 116) = some (.inl (0, 16, f))
theorem cW.frm {σ τ : ex_S} {x lo hi : Nat} (h : cW σ x) (hf : frm σ τ lo hi) (hc : x + 117 ≤ lo ∨ hi ≤ x + 116) : cW τ x := by
  obtain ⟨f, e0⟩ := h
  exact ⟨f, frm.cell hf e0 (by omega)⟩
/-- the class's images, and the benches with their table: both may lie behind the objects -/
def cI (σ : ex_S) (x : Nat) (I : Nat → Option Tol) (im : Nat → Option Nat) : Prop :=
  σ.2 (x + 62) = some (.inr (.inl (6, 3, im))) ∧ (∀ k, k < 3 → (I k = none ∧ im k = none) ∨ ∃ a U, I k = some U ∧ im k = some a ∧ isT σ a U ∧ x + 134 ≤ a ∧ a + 61 ≤ σ.1) ∧ ∀ j k a b, j < 3 → k < 3 → j ≠ k → im j = some a → im k = some b → a + 61 ≤ b ∨ b + 61 ≤ a
def bbV : Option Nat → Value
  | none => .null
  | some b => .ref b
def cB (σ : ex_S) (x : Nat) (im bb : Nat → Option Nat) : Prop :=
  ∃ (n : Nat) (wo co ne : Nat → Int32), σ.2 (x + 108) = some (.inr (.inr (8, [.ref (x + 108 + 1), .ref (x + 108 + 2), .ref (x + 108 + 3), bbV (bb 0), .int (nI n)]))) ∧ n ≤ 12 ∧ σ.2 (x + 108 + 1) = some (.inl (0, 12, wo)) ∧ σ.2 (x + 108 + 2) = some (.inl (0, 144, co)) ∧ σ.2 (x + 108 + 3) = some (.inl (0, 16, ne)) ∧
    ∀ b, bb 0 = some b → (∃ f, σ.2 b = some (.inl (0, 4096, f))) ∧ x + 134 ≤ b ∧ b + 1 ≤ σ.1 ∧ ∀ k a, k < 3 → im k = some a → b < a ∨ a + 61 ≤ b
theorem cI.frm {σ τ : ex_S} {x lo hi : Nat} {I : Nat → Option Tol} {im : Nat → Option Nat} (h : cI σ x I im) (hf : frm σ τ lo hi) (hc : hi ≤ x + 134) (hc2 : x + 62 < lo ∨ hi ≤ x + 62) : cI τ x I im := by
  obtain ⟨a, b, c⟩ := h
  refine ⟨frm.cell hf a (by omega), fun k hk => (b k hk).imp id (fun ⟨q, U, q1, q2, q3, q4, q5⟩ => ⟨q, U, q1, q2, q3.frm hf (by omega), q4, by rw [hf.1]; exact q5⟩), c⟩
theorem cB.frm {σ τ : ex_S} {x lo hi : Nat} {im bb : Nat → Option Nat} (h : cB σ x im bb) (hf : frm σ τ lo hi) (hc : hi ≤ x + 134) (hc2 : x + 112 ≤ lo ∨ hi ≤ x + 108) : cB τ x im bb := by
  obtain ⟨n, wo, co, ne, a1, a2, a3, a4, a5, a6⟩ := h
  refine ⟨n, wo, co, ne, frm.cell hf a1 (by omega), a2, frm.cell hf a3 (by omega), frm.cell hf a4 (by omega), frm.cell hf a5 (by omega), fun b hb => ?_⟩
  obtain ⟨⟨f, b1⟩, b2, b3, b4⟩ := a6 b hb
  exact ⟨⟨f, frm.cell hf b1 (by omega)⟩, b2, by rw [hf.1]; exact b3, b4⟩
/-- the class's side -/
def InvC (σ : ex_S) (x : Nat) (T : Tol) (I : Nat → Option Tol) : Prop := isX σ x ∧ isT σ (x + 1) T ∧ (∃ im bb, cI σ x I im ∧ cB σ x im bb) ∧ cR σ x ∧ cS σ x ∧ cL σ x ∧ cN σ x ∧ cH σ x ∧ cE σ x ∧ cF σ x ∧ cW σ x
/-- the reference's side -/
def InvM (σ : ex_S) (y : Nat) (T : Tol) (I : Nat → Option Tol) : Prop := ∃ (g A : Nat → Int32) (hs : Nat → Int32) (rd : Nat → Int32) (al : Nat → Int32) (bs : Nat → Int32) (bm : Nat → Int32) (bz : Nat → Int32) (tr : Nat → Int32) (rw : Nat → Int32) (op : Nat → Int32) (lo : Nat → Int32) (me : Nat → Int32) (pb : Nat → Int32) (pw : Nat → Int32) (st : Nat → Int32) (en : Nat → Int32), isM σ y g A ∧ mT A 0 T ∧ (∀ k U, k < 3 → I k = some U → mT A (1090 * (k + 1)) U) ∧ σ.2 (y + 2) = some (.inl (2, 3, hs)) ∧ σ.2 (y + 3) = some (.inl (0, 120, rd)) ∧ σ.2 (y + 4) = some (.inl (0, 16, al)) ∧ σ.2 (y + 5) = some (.inl (0, 119, bs)) ∧ σ.2 (y + 6) = some (.inl (0, 119, bm)) ∧ σ.2 (y + 7) = some (.inl (0, 119, bz)) ∧ σ.2 (y + 8) = some (.inl (0, 6, tr)) ∧ σ.2 (y + 9) = some (.inl (0, 16, rw)) ∧ σ.2 (y + 10) = some (.inl (0, 16, op)) ∧ σ.2 (y + 11) = some (.inl (0, 16, lo)) ∧ σ.2 (y + 12) = some (.inl (0, 16, me)) ∧ σ.2 (y + 13) = some (.inl (0, 4096, pb)) ∧ σ.2 (y + 14) = some (.inl (0, 4096, pw)) ∧ σ.2 (y + 15) = some (.inl (0, 6, st)) ∧ σ.2 (y + 16) = some (.inl (0, 6, en)) ∧ (∀ k, k < 3 → hs k = if I k = none then 0 else 1) ∧ pb 0 = 0
theorem InvM.of {σ τ : ex_S} {y : Nat} {T : Tol} {I : Nat → Option Tol} (h : InvM σ y T I) (hq : ∀ q, y ≤ q → q < y + 17 → τ.2 q = σ.2 q) : InvM τ y T I := by
  obtain ⟨g, A, hs, rd, al, bs, bm, bz, tr, rw, op, lo, me, pb, pw, st, en, ⟨a1, a2⟩, a3, a4, b0, b1, b2, b3, b4, b5, b6, b7, b8, b9, b10, b11, b12, b13, b14, z1, z2⟩ := h
  exact ⟨g, A, hs, rd, al, bs, bm, bz, tr, rw, op, lo, me, pb, pw, st, en, ⟨(hq _ (by omega) (by omega)).trans a1, (hq _ (by omega) (by omega)).trans a2⟩, a3, a4, (hq _ (by omega) (by omega)).trans b0, (hq _ (by omega) (by omega)).trans b1, (hq _ (by omega) (by omega)).trans b2, (hq _ (by omega) (by omega)).trans b3, (hq _ (by omega) (by omega)).trans b4, (hq _ (by omega) (by omega)).trans b5, (hq _ (by omega) (by omega)).trans b6, (hq _ (by omega) (by omega)).trans b7, (hq _ (by omega) (by omega)).trans b8, (hq _ (by omega) (by omega)).trans b9, (hq _ (by omega) (by omega)).trans b10, (hq _ (by omega) (by omega)).trans b11, (hq _ (by omega) (by omega)).trans b12, (hq _ (by omega) (by omega)).trans b13, (hq _ (by omega) (by omega)).trans b14, z1, z2⟩
theorem InvM.cls {σ τ : ex_S} {x lo hi : Nat} {T : Tol} {I : Nat → Option Tol} (h : InvM σ (x + 117) T I) (hf : frm σ τ lo hi) (hc : hi ≤ x + 117) : InvM τ (x + 117) T I := h.of (fun q h1 h2 => hf.2 q (by omega))
theorem InvC.upcR {σ τ : ex_S} {x : Nat} {T : Tol} {I : Nat → Option Tol} (h : InvC σ x T I) (hf : frm σ τ (x + 63) (x + 84)) (hn : cR τ x) : InvC τ x T I := by
  obtain ⟨hX, hT, ⟨im, bb, hI, hB⟩, hcR, hcS, hcL, hcN, hcH, hcE, hcF, hcW⟩ := h
  exact ⟨hX.frm hf (by omega), hT.frm hf (by omega), ⟨im, bb, hI.frm hf (by omega) (by omega), hB.frm hf (by omega) (by omega)⟩, hn, hcS.frm hf (by omega), hcL.frm hf (by omega), hcN.frm hf (by omega), hcH.frm hf (by omega), hcE.frm hf (by omega), hcF.frm hf (by omega), hcW.frm hf (by omega)⟩
theorem InvC.upcS {σ τ : ex_S} {x : Nat} {T : Tol} {I : Nat → Option Tol} (h : InvC σ x T I) (hf : frm σ τ (x + 84) (x + 95)) (hn : cS τ x) : InvC τ x T I := by
  obtain ⟨hX, hT, ⟨im, bb, hI, hB⟩, hcR, hcS, hcL, hcN, hcH, hcE, hcF, hcW⟩ := h
  exact ⟨hX.frm hf (by omega), hT.frm hf (by omega), ⟨im, bb, hI.frm hf (by omega) (by omega), hB.frm hf (by omega) (by omega)⟩, hcR.frm hf (by omega), hn, hcL.frm hf (by omega), hcN.frm hf (by omega), hcH.frm hf (by omega), hcE.frm hf (by omega), hcF.frm hf (by omega), hcW.frm hf (by omega)⟩
theorem InvC.upcL {σ τ : ex_S} {x : Nat} {T : Tol} {I : Nat → Option Tol} (h : InvC σ x T I) (hf : frm σ τ (x + 95) (x + 96)) (hn : cL τ x) : InvC τ x T I := by
  obtain ⟨hX, hT, ⟨im, bb, hI, hB⟩, hcR, hcS, hcL, hcN, hcH, hcE, hcF, hcW⟩ := h
  exact ⟨hX.frm hf (by omega), hT.frm hf (by omega), ⟨im, bb, hI.frm hf (by omega) (by omega), hB.frm hf (by omega) (by omega)⟩, hcR.frm hf (by omega), hcS.frm hf (by omega), hn, hcN.frm hf (by omega), hcH.frm hf (by omega), hcE.frm hf (by omega), hcF.frm hf (by omega), hcW.frm hf (by omega)⟩
theorem InvC.upcN {σ τ : ex_S} {x : Nat} {T : Tol} {I : Nat → Option Tol} (h : InvC σ x T I) (hf : frm σ τ (x + 96) (x + 104)) (hn : cN τ x) : InvC τ x T I := by
  obtain ⟨hX, hT, ⟨im, bb, hI, hB⟩, hcR, hcS, hcL, hcN, hcH, hcE, hcF, hcW⟩ := h
  exact ⟨hX.frm hf (by omega), hT.frm hf (by omega), ⟨im, bb, hI.frm hf (by omega) (by omega), hB.frm hf (by omega) (by omega)⟩, hcR.frm hf (by omega), hcS.frm hf (by omega), hcL.frm hf (by omega), hn, hcH.frm hf (by omega), hcE.frm hf (by omega), hcF.frm hf (by omega), hcW.frm hf (by omega)⟩
theorem InvC.upcH {σ τ : ex_S} {x : Nat} {T : Tol} {I : Nat → Option Tol} (h : InvC σ x T I) (hf : frm σ τ (x + 104) (x + 108)) (hn : cH τ x) : InvC τ x T I := by
  obtain ⟨hX, hT, ⟨im, bb, hI, hB⟩, hcR, hcS, hcL, hcN, hcH, hcE, hcF, hcW⟩ := h
  exact ⟨hX.frm hf (by omega), hT.frm hf (by omega), ⟨im, bb, hI.frm hf (by omega) (by omega), hB.frm hf (by omega) (by omega)⟩, hcR.frm hf (by omega), hcS.frm hf (by omega), hcL.frm hf (by omega), hcN.frm hf (by omega), hn, hcE.frm hf (by omega), hcF.frm hf (by omega), hcW.frm hf (by omega)⟩
theorem InvC.upcE {σ τ : ex_S} {x : Nat} {T : Tol} {I : Nat → Option Tol} (h : InvC σ x T I) (hf : frm σ τ (x + 112) (x + 115)) (hn : cE τ x) : InvC τ x T I := by
  obtain ⟨hX, hT, ⟨im, bb, hI, hB⟩, hcR, hcS, hcL, hcN, hcH, hcE, hcF, hcW⟩ := h
  exact ⟨hX.frm hf (by omega), hT.frm hf (by omega), ⟨im, bb, hI.frm hf (by omega) (by omega), hB.frm hf (by omega) (by omega)⟩, hcR.frm hf (by omega), hcS.frm hf (by omega), hcL.frm hf (by omega), hcN.frm hf (by omega), hcH.frm hf (by omega), hn, hcF.frm hf (by omega), hcW.frm hf (by omega)⟩
theorem InvC.upcF {σ τ : ex_S} {x : Nat} {T : Tol} {I : Nat → Option Tol} (h : InvC σ x T I) (hf : frm σ τ (x + 115) (x + 116)) (hn : cF τ x) : InvC τ x T I := by
  obtain ⟨hX, hT, ⟨im, bb, hI, hB⟩, hcR, hcS, hcL, hcN, hcH, hcE, hcF, hcW⟩ := h
  exact ⟨hX.frm hf (by omega), hT.frm hf (by omega), ⟨im, bb, hI.frm hf (by omega) (by omega), hB.frm hf (by omega) (by omega)⟩, hcR.frm hf (by omega), hcS.frm hf (by omega), hcL.frm hf (by omega), hcN.frm hf (by omega), hcH.frm hf (by omega), hcE.frm hf (by omega), hn, hcW.frm hf (by omega)⟩
theorem InvC.upcW {σ τ : ex_S} {x : Nat} {T : Tol} {I : Nat → Option Tol} (h : InvC σ x T I) (hf : frm σ τ (x + 116) (x + 117)) (hn : cW τ x) : InvC τ x T I := by
  obtain ⟨hX, hT, ⟨im, bb, hI, hB⟩, hcR, hcS, hcL, hcN, hcH, hcE, hcF, hcW⟩ := h
  exact ⟨hX.frm hf (by omega), hT.frm hf (by omega), ⟨im, bb, hI.frm hf (by omega) (by omega), hB.frm hf (by omega) (by omega)⟩, hcR.frm hf (by omega), hcS.frm hf (by omega), hcL.frm hf (by omega), hcN.frm hf (by omega), hcH.frm hf (by omega), hcE.frm hf (by omega), hcF.frm hf (by omega), hn⟩
theorem InvC.upT {σ τ : ex_S} {x : Nat} {T T' : Tol} {I : Nat → Option Tol} (h : InvC σ x T I) (hf : frm σ τ (x + 1) (x + 62)) (hn : isT τ (x + 1) T') : InvC τ x T' I := by
  obtain ⟨hX, hT, ⟨im, bb, hI, hB⟩, hcR, hcS, hcL, hcN, hcH, hcE, hcF, hcW⟩ := h
  exact ⟨hX.frm hf (by omega), hn, ⟨im, bb, hI.frm hf (by omega) (by omega), hB.frm hf (by omega) (by omega)⟩, hcR.frm hf (by omega), hcS.frm hf (by omega), hcL.frm hf (by omega), hcN.frm hf (by omega), hcH.frm hf (by omega), hcE.frm hf (by omega), hcF.frm hf (by omega), hcW.frm hf (by omega)⟩
theorem InvC.ref {σ τ : ex_S} {x : Nat} {T : Tol} {I : Nat → Option Tol} (h : InvC σ x T I) (hf : frm σ τ (x + 117) (x + 134)) : InvC τ x T I := by
  obtain ⟨hX, hT, ⟨im, bb, hI, hB⟩, hcR, hcS, hcL, hcN, hcH, hcE, hcF, hcW⟩ := h
  exact ⟨hX.frm hf (by omega), hT.frm hf (by omega), ⟨im, bb, hI.frm hf (by omega) (by omega), hB.frm hf (by omega) (by omega)⟩, hcR.frm hf (by omega), hcS.frm hf (by omega), hcL.frm hf (by omega), hcN.frm hf (by omega), hcH.frm hf (by omega), hcE.frm hf (by omega), hcF.frm hf (by omega), hcW.frm hf (by omega)⟩
/-- all that holds between two calls -/
def Inv (σ : ex_S) (x : Nat) (T : Tol) (I : Nat → Option Tol) : Prop := InvC σ x T I ∧ InvM σ (x + 117) T I ∧ wT T ∧ fitT T ∧ (∀ k U, k < 3 → I k = some U → wT U ∧ fitT U) ∧ x + 134 ≤ σ.1
/-- behind the class's call, ahead of the reference's -/
def Mid (σ : ex_S) (x : Nat) (T T' : Tol) (I I' : Nat → Option Tol) : Prop := InvC σ x T' I' ∧ InvM σ (x + 117) T I ∧ wT T ∧ fitT T ∧ (∀ k U, k < 3 → I k = some U → wT U ∧ fitT U) ∧ x + 134 ≤ σ.1
/-- the class's call answers v -/
def CallC (Γ : ex_G) (x z : Nat) (as : List Value) (σ : ex_S) (v : Int32) (T T' : Tol) (I I' : Nat → Option Tol) : Prop := ∃ mc ms, mc ≤ 70 ∧ ms ≤ 4300 ∧ Ret Γ z mc ms (.ref x :: as) σ (fun r τ => r = some (.int v) ∧ Mid τ x T T' I I')
/-- the reference's call answers v -/
def CallM (Γ : ex_G) (x z : Nat) (as : List Value) (σ : ex_S) (v : Int32) (T' : Tol) (I' : Nat → Option Tol) : Prop := Ret Γ z 0 0 (.ref (x + 117) :: as) σ (fun r τ => r = some (.int v) ∧ Inv τ x T' I')
/-- both answer alike, whatever is told -/
def Pair (Γ : ex_G) (x zc zm : Nat) (as : List Value) : Prop := ∀ σ T I, Inv σ x T I → ∃ v T' I', CallC Γ x zc as σ v T T' I I' ∧ ∀ τ, Mid τ x T T' I I' → CallM Γ x zm as τ v T' I'
theorem CallC.pure {Γ : ex_G} {x z : Nat} {as : List Value} {σ : ex_S} {v : Int32} {T : Tol} {I : Nat → Option Tol} (h : Inv σ x T I) (hr : RetV Γ z (.ref x :: as) σ (.int v)) : CallC Γ x z as σ v T T I I := by
  refine ⟨0, 0, by omega, by omega, Ret.imp hr (fun r τ q => ?_)⟩
  obtain ⟨q1, q2⟩ := q
  subst q2
  exact ⟨q1, h⟩
theorem CallM.pure {Γ : ex_G} {x z : Nat} {as : List Value} {σ : ex_S} {v : Int32} {T : Tol} {I : Nat → Option Tol} (h : Mid σ x T T I I) (hr : RetV Γ z (.ref (x + 117) :: as) σ (.int v)) : CallM Γ x z as σ v T I := by
  refine Ret.imp hr (fun r τ q => ?_)
  obtain ⟨q1, q2⟩ := q
  subst q2
  exact ⟨q1, h⟩
end
