/-! An image made or made anew: what holds afterwards. -/
noncomputable section
theorem cR.keep {σ τ : ex_S} {x : Nat} (h : cR σ x) (hk : ∀ q, x ≤ q → q < x + 117 → q ≠ x + 62 → τ.2 q = σ.2 q) : cR τ x := by
  obtain ⟨S, Q, nu, tv, i1, i2, i3, i4, i5, i6, i7, i8, e0, e1, e2, e3, p0⟩ := h
  exact ⟨S, Q, nu, tv, i1, i2, i3, i4, i5, i6, i7, i8, (hk _ (by omega) (by omega) (by omega)).trans e0, e1.keep (fun q h1 h2 => hk q (by omega) (by omega) (by omega)), e2.keep (fun q h1 h2 => hk q (by omega) (by omega) (by omega)), (hk _ (by omega) (by omega) (by omega)).trans e3, p0⟩
theorem cS.keep {σ τ : ex_S} {x : Nat} (h : cS σ x) (hk : ∀ q, x ≤ q → q < x + 117 → q ≠ x + 62 → τ.2 q = σ.2 q) : cS τ x := by
  obtain ⟨D, e0⟩ := h
  exact ⟨D, e0.keep (fun q h1 h2 => hk q (by omega) (by omega) (by omega))⟩
theorem cL.keep {σ τ : ex_S} {x : Nat} (h : cL σ x) (hk : ∀ q, x ≤ q → q < x + 117 → q ≠ x + 62 → τ.2 q = σ.2 q) : cL τ x := by
  obtain ⟨C, e0⟩ := h
  exact ⟨C, e0.keep (fun q h1 h2 => hk q (by omega) (by omega) (by omega))⟩
theorem cN.keep {σ τ : ex_S} {x : Nat} (h : cN σ x) (hk : ∀ q, x ≤ q → q < x + 117 → q ≠ x + 62 → τ.2 q = σ.2 q) : cN τ x := by
  obtain ⟨n0, c0, lt, u, D, ro, wo, ws, be, sz, st, e0, e1, e2, e3, e4, e5, e6, e7, p0⟩ := h
  exact ⟨n0, c0, lt, u, D, ro, wo, ws, be, sz, st, (hk _ (by omega) (by omega) (by omega)).trans e0, (hk _ (by omega) (by omega) (by omega)).trans e1, (hk _ (by omega) (by omega) (by omega)).trans e2, (hk _ (by omega) (by omega) (by omega)).trans e3, (hk _ (by omega) (by omega) (by omega)).trans e4, (hk _ (by omega) (by omega) (by omega)).trans e5, (hk _ (by omega) (by omega) (by omega)).trans e6, e7.keep (fun q h1 h2 => hk q (by omega) (by omega) (by omega)), p0⟩
theorem cH.keep {σ τ : ex_S} {x : Nat} (h : cH σ x) (hk : ∀ q, x ≤ q → q < x + 117 → q ≠ x + 62 → τ.2 q = σ.2 q) : cH τ x := by
  obtain ⟨n0, wo, be, we, e0, e1, e2, e3⟩ := h
  exact ⟨n0, wo, be, we, (hk _ (by omega) (by omega) (by omega)).trans e0, (hk _ (by omega) (by omega) (by omega)).trans e1, (hk _ (by omega) (by omega) (by omega)).trans e2, (hk _ (by omega) (by omega) (by omega)).trans e3⟩
theorem cE.keep {σ τ : ex_S} {x : Nat} (h : cE σ x) (hk : ∀ q, x ≤ q → q < x + 117 → q ≠ x + 62 → τ.2 q = σ.2 q) : cE τ x := by
  obtain ⟨xv, si, en, e0, e1, e2⟩ := h
  exact ⟨xv, si, en, (hk _ (by omega) (by omega) (by omega)).trans e0, (hk _ (by omega) (by omega) (by omega)).trans e1, (hk _ (by omega) (by omega) (by omega)).trans e2⟩
theorem cF.keep {σ τ : ex_S} {x : Nat} (h : cF σ x) (hk : ∀ q, x ≤ q → q < x + 117 → q ≠ x + 62 → τ.2 q = σ.2 q) : cF τ x := by
  obtain ⟨f, e0⟩ := h
  exact ⟨f, (hk _ (by omega) (by omega) (by omega)).trans e0⟩
theorem cW.keep {σ τ : ex_S} {x : Nat} (h : cW σ x) (hk : ∀ q, x ≤ q → q < x + 117 → q ≠ x + 62 → τ.2 q = σ.2 q) : cW τ x := by
  obtain ⟨f, e0⟩ := h
  exact ⟨f, (hk _ (by omega) (by omega) (by omega)).trans e0⟩
theorem InvC.img {σ τ : ex_S} {x k a : Nat} {T : Tol} {I : Nat → Option Tol} {im bb : Nat → Option Nat} (h : InvC σ x T I) (hx : x + 134 ≤ σ.1) (hk : k < 3) (hI : cI σ x I im) (hB : cB σ x im bb) (hlo : ∀ q, q < σ.1 → q ≠ x + 62 → q < a ∨ a + 61 ≤ q → τ.2 q = σ.2 q) (hsz : σ.1 ≤ τ.1) (harr : τ.2 (x + 62) = some (.inr (.inl (6, 3, va_up im k (some a))))) (hd : ∀ j c, j < 3 → j ≠ k → im j = some c → a + 61 ≤ c ∨ c + 61 ≤ a) (hb : ∀ b, bb 0 = some b → b < a ∨ a + 61 ≤ b) (ha : x + 134 ≤ a) (ha2 : a + 61 ≤ τ.1) (hT : isT τ a T) : InvC τ x T (fun j => if j = k then some T else I j) := by
  obtain ⟨hX, hT0, -, hcR, hcS, hcL, hcN, hcH, hcE, hcF, hcW⟩ := h
  have kp : ∀ q, x ≤ q → q < x + 117 → q ≠ x + 62 → τ.2 q = σ.2 q := fun q h1 h2 h3 => hlo q (by omega) h3 (by omega)
  refine ⟨(kp x (by omega) (by omega) (by omega)).trans hX, hT0.keep (fun q h1 h2 => kp q (by omega) (by omega) (by omega)), ⟨va_up im k (some a), bb, ?_, ?_⟩, hcR.keep kp, hcS.keep kp, hcL.keep kp, hcN.keep kp, hcH.keep kp, hcE.keep kp, hcF.keep kp, hcW.keep kp⟩
  · obtain ⟨-, c2, c3⟩ := hI
    refine ⟨harr, fun j hj => ?_, fun j l c d hj hl hjl e1 e2 => ?_⟩
    · by_cases e : j = k
      · refine Or.inr ⟨a, T, if_pos e, ?_, hT, ha, ha2⟩
        rw [e]
        exact va_up_self _ _ _
      · rcases c2 j hj with ⟨i1, i2⟩ | ⟨c, U, i1, i2, i3, i4, i5⟩
        · exact Or.inl ⟨(if_neg e).trans i1, (va_up_ne _ _ e).trans i2⟩
        · have hdj := hd j c hj e i2
          exact Or.inr ⟨c, U, (if_neg e).trans i1, (va_up_ne _ _ e).trans i2, i3.keep (fun q h1 h2 => hlo q (by omega) (by omega) (by omega)), i4, by omega⟩
    · by_cases ej : j = k
      · have el : l ≠ k := fun q => hjl (ej.trans q.symm)
        rw [ej, va_up_self] at e1
        rw [va_up_ne _ _ el] at e2
        have := hd l d hl el e2
        cases e1
        exact this
      · rw [va_up_ne _ _ ej] at e1
        by_cases el : l = k
        · rw [el, va_up_self] at e2
          have := hd j c hj ej e1
          cases e2
          exact this.symm
        · rw [va_up_ne _ _ el] at e2
          exact c3 j l c d hj hl hjl e1 e2
  · obtain ⟨n, wo, co, ne, a1, a2, a3, a4, a5, a6⟩ := hB
    refine ⟨n, wo, co, ne, (kp _ (by omega) (by omega) (by omega)).trans a1, a2, (kp _ (by omega) (by omega) (by omega)).trans a3, (kp _ (by omega) (by omega) (by omega)).trans a4, (kp _ (by omega) (by omega) (by omega)).trans a5, fun b e => ?_⟩
    obtain ⟨⟨f, b1⟩, b2, b3, b4⟩ := a6 b e
    have hba := hb b e
    refine ⟨⟨f, (hlo b (by omega) (by omega) (by omega)).trans b1⟩, b2, by omega, fun j c hj hc => ?_⟩
    by_cases ej : j = k
    · rw [ej, va_up_self] at hc
      cases hc
      exact hba
    · rw [va_up_ne _ _ ej] at hc
      exact b4 j c hj hc
end
