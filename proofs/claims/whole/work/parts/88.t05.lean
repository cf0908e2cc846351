/-! Both answer alike: what is kept by calls that write scratch. -/
noncomputable section
/-- a cell of the reference's scratch that may hold other numbers now -/
def chgd (τ : ex_S) (y q : Nat) : Prop := (q = y ∧ ∃ g, τ.2 y = some (.inr (.inr (10, mo y g)))) ∨ (q = y + 3 ∧ ∃ f, τ.2 (y + 3) = some (.inl (0, 120, f))) ∨ (q = y + 4 ∧ ∃ f, τ.2 (y + 4) = some (.inl (0, 16, f))) ∨ (q = y + 5 ∧ ∃ f, τ.2 (y + 5) = some (.inl (0, 119, f))) ∨ (q = y + 6 ∧ ∃ f, τ.2 (y + 6) = some (.inl (0, 119, f))) ∨ (q = y + 7 ∧ ∃ f, τ.2 (y + 7) = some (.inl (0, 119, f))) ∨ (q = y + 8 ∧ ∃ f, τ.2 (y + 8) = some (.inl (0, 6, f))) ∨ (q = y + 9 ∧ ∃ f, τ.2 (y + 9) = some (.inl (0, 16, f))) ∨ (q = y + 10 ∧ ∃ f, τ.2 (y + 10) = some (.inl (0, 16, f))) ∨ (q = y + 11 ∧ ∃ f, τ.2 (y + 11) = some (.inl (0, 16, f))) ∨ (q = y + 12 ∧ ∃ f, τ.2 (y + 12) = some (.inl (0, 16, f))) ∨ (q = y + 14 ∧ ∃ f, τ.2 (y + 14) = some (.inl (0, 4096, f))) ∨ (q = y + 15 ∧ ∃ f, τ.2 (y + 15) = some (.inl (0, 6, f))) ∨ (q = y + 16 ∧ ∃ f, τ.2 (y + 16) = some (.inl (0, 6, f)))
theorem chg_0 {τ σ : ex_S} {y : Nat} {g : Nat → Int32} (h : σ.2 y = some (.inr (.inr (10, mo y g)))) (hq : τ.2 y = σ.2 y ∨ chgd τ y y) : ∃ g, τ.2 y = some (.inr (.inr (10, mo y g))) := by
  rcases hq with e | e
  · exact ⟨g, e.trans h⟩
  · unfold chgd at e
    rcases e with ⟨-, e⟩ | ⟨e, -⟩ | ⟨e, -⟩ | ⟨e, -⟩ | ⟨e, -⟩ | ⟨e, -⟩ | ⟨e, -⟩ | ⟨e, -⟩ | ⟨e, -⟩ | ⟨e, -⟩ | ⟨e, -⟩ | ⟨e, -⟩ | ⟨e, -⟩ | ⟨e, -⟩
    · exact e
    all_goals omega
theorem chg_3 {τ σ : ex_S} {y : Nat} {f : Nat → Int32} (h : σ.2 (y + 3) = some (.inl (0, 120, f))) (hq : τ.2 (y + 3) = σ.2 (y + 3) ∨ chgd τ y (y + 3)) : ∃ f, τ.2 (y + 3) = some (.inl (0, 120, f)) := by
  rcases hq with e | e
  · exact ⟨f, e.trans h⟩
  · unfold chgd at e
    rcases e with ⟨e, -⟩ | ⟨-, e⟩ | ⟨e, -⟩ | ⟨e, -⟩ | ⟨e, -⟩ | ⟨e, -⟩ | ⟨e, -⟩ | ⟨e, -⟩ | ⟨e, -⟩ | ⟨e, -⟩ | ⟨e, -⟩ | ⟨e, -⟩ | ⟨e, -⟩ | ⟨e, -⟩
    all_goals first | exact e | (exfalso; omega)
theorem chg_4 {τ σ : ex_S} {y : Nat} {f : Nat → Int32} (h : σ.2 (y + 4) = some (.inl (0, 16, f))) (hq : τ.2 (y + 4) = σ.2 (y + 4) ∨ chgd τ y (y + 4)) : ∃ f, τ.2 (y + 4) = some (.inl (0, 16, f)) := by
  rcases hq with e | e
  · exact ⟨f, e.trans h⟩
  · unfold chgd at e
    rcases e with ⟨e, -⟩ | ⟨e, -⟩ | ⟨-, e⟩ | ⟨e, -⟩ | ⟨e, -⟩ | ⟨e, -⟩ | ⟨e, -⟩ | ⟨e, -⟩ | ⟨e, -⟩ | ⟨e, -⟩ | ⟨e, -⟩ | ⟨e, -⟩ | ⟨e, -⟩ | ⟨e, -⟩
    all_goals first | exact e | (exfalso; omega)
theorem chg_5 {τ σ : ex_S} {y : Nat} {f : Nat → Int32} (h : σ.2 (y + 5) = some (.inl (0, 119, f))) (hq : τ.2 (y + 5) = σ.2 (y + 5) ∨ chgd τ y (y + 5)) : ∃ f, τ.2 (y + 5) = some (.inl (0, 119, f)) := by
  rcases hq with e | e
  · exact ⟨f, e.trans h⟩
  · unfold chgd at e
    rcases e with ⟨e, -⟩ | ⟨e, -⟩ | ⟨e, -⟩ | ⟨-, e⟩ | ⟨e, -⟩ | ⟨e, -⟩ | ⟨e, -⟩ | ⟨e, -⟩ | ⟨e, -⟩ | ⟨e, -⟩ | ⟨e, -⟩ | ⟨e, -⟩ | ⟨e, -⟩ | ⟨e, -⟩
    all_goals first | exact e | (exfalso; omega)
theorem chg_6 {τ σ : ex_S} {y : Nat} {f : Nat → Int32} (h : σ.2 (y + 6) = some (.inl (0, 119, f))) (hq : τ.2 (y + 6) = σ.2 (y + 6) ∨ chgd τ y (y + 6)) : ∃ f, τ.2 (y + 6) = some (.inl (0, 119, f)) := by
  rcases hq with e | e
  · exact ⟨f, e.trans h⟩
  · unfold chgd at e
    rcases e with ⟨e, -⟩ | ⟨e, -⟩ | ⟨e, -⟩ | ⟨e, -⟩ | ⟨-, e⟩ | ⟨e, -⟩ | ⟨e, -⟩ | ⟨e, -⟩ | ⟨e, -⟩ | ⟨e, -⟩ | ⟨e, -⟩ | ⟨e, -⟩ | ⟨e, -⟩ | ⟨e, -⟩
    all_goals first | exact e | (exfalso; omega)
theorem chg_7 {τ σ : ex_S} {y : Nat} {f : Nat → Int32} (h : σ.2 (y + 7) = some (.inl (0, 119, f))) (hq : τ.2 (y + 7) = σ.2 (y + 7) ∨ chgd τ y (y + 7)) : ∃ f, τ.2 (y + 7) = some (.inl (0, 119, f)) := by
  rcases hq with e | e
  · exact ⟨f, e.trans h⟩
  · unfold chgd at e
    rcases e with ⟨e, -⟩ | ⟨e, -⟩ | ⟨e, -⟩ | ⟨e, -⟩ | ⟨e, -⟩ | ⟨-, e⟩ | ⟨e, -⟩ | ⟨e, -⟩ | ⟨e, -⟩ | ⟨e, -⟩ | ⟨e, -⟩ | ⟨e, -⟩ | ⟨e, -⟩ | ⟨e, -⟩
    all_goals first | exact e | (exfalso; omega)
theorem chg_8 {τ σ : ex_S} {y : Nat} {f : Nat → Int32} (h : σ.2 (y + 8) = some (.inl (0, 6, f))) (hq : τ.2 (y + 8) = σ.2 (y + 8) ∨ chgd τ y (y + 8)) : ∃ f, τ.2 (y + 8) = some (.inl (0, 6, f)) := by
  rcases hq with e | e
  · exact ⟨f, e.trans h⟩
  · unfold chgd at e
    rcases e with ⟨e, -⟩ | ⟨e, -⟩ | ⟨e, -⟩ | ⟨e, -⟩ | ⟨e, -⟩ | ⟨e, -⟩ | ⟨-, e⟩ | ⟨e, -⟩ | ⟨e, -⟩ | ⟨e, -⟩ | ⟨e, -⟩ | ⟨e, -⟩ | ⟨e, -⟩ | ⟨e, -⟩
    all_goals first | exact e | (exfalso; omega)
theorem chg_9 {τ σ : ex_S} {y : Nat} {f : Nat → Int32} (h : σ.2 (y + 9) = some (.inl (0, 16, f))) (hq : τ.2 (y + 9) = σ.2 (y + 9) ∨ chgd τ y (y + 9)) : ∃ f, τ.2 (y + 9) = some (.inl (0, 16, f)) := by
  rcases hq with e | e
  · exact ⟨f, e.trans h⟩
  · unfold chgd at e
    rcases e with ⟨e, -⟩ | ⟨e, -⟩ | ⟨e, -⟩ | ⟨e, -⟩ | ⟨e, -⟩ | ⟨e, -⟩ | ⟨e, -⟩ | ⟨-, e⟩ | ⟨e, -⟩ | ⟨e, -⟩ | ⟨e, -⟩ | ⟨e, -⟩ | ⟨e, -⟩ | ⟨e, -⟩
    all_goals first | exact e | (exfalso; omega)
theorem chg_10 {τ σ : ex_S} {y : Nat} {f : Nat → Int32} (h : σ.2 (y + 10) = some (.inl (0, 16, f))) (hq : τ.2 (y + 10) = σ.2 (y + 10) ∨ chgd τ y (y + 10)) : ∃ f, τ.2 (y + 10) = some (.inl (0, 16, f)) := by
  rcases hq with e | e
  · exact ⟨f, e.trans h⟩
  · unfold chgd at e
    rcases e with ⟨e, -⟩ | ⟨e, -⟩ | ⟨e, -⟩ | ⟨e, -⟩ | ⟨e, -⟩ | ⟨e, -⟩ | ⟨e, -⟩ | ⟨e, -⟩ | ⟨-, e⟩ | ⟨e, -⟩ | ⟨e, -⟩ | ⟨e, -⟩ | ⟨e, -⟩ | ⟨e, -⟩
    all_goals first | exact e | (exfalso; omega)
theorem chg_11 {τ σ : ex_S} {y : Nat} {f : Nat → Int32} (h : σ.2 (y + 11) = some (.inl (0, 16, f))) (hq : τ.2 (y + 11) = σ.2 (y + 11) ∨ chgd τ y (y + 11)) : ∃ f, τ.2 (y + 11) = some (.inl (0, 16, f)) := by
  rcases hq with e | e
  · exact ⟨f, e.trans h⟩
  · unfold chgd at e
    rcases e with ⟨e, -⟩ | ⟨e, -⟩ | ⟨e, -⟩ | ⟨e, -⟩ | ⟨e, -⟩ | ⟨e, -⟩ | ⟨e, -⟩ | ⟨e, -⟩ | ⟨e, -⟩ | ⟨-, e⟩ | ⟨e, -⟩ | ⟨e, -⟩ | ⟨e, -⟩ | ⟨e, -⟩
    all_goals first | exact e | (exfalso; omega)
theorem chg_12 {τ σ : ex_S} {y : Nat} {f : Nat → Int32} (h : σ.2 (y + 12) = some (.inl (0, 16, f))) (hq : τ.2 (y + 12) = σ.2 (y + 12) ∨ chgd τ y (y + 12)) : ∃ f, τ.2 (y + 12) = some (.inl (0, 16, f)) := by
  rcases hq with e | e
  · exact ⟨f, e.trans h⟩
  · unfold chgd at e
    rcases e with ⟨e, -⟩ | ⟨e, -⟩ | ⟨e, -⟩ | ⟨e, -⟩ | ⟨e, -⟩ | ⟨e, -⟩ | ⟨e, -⟩ | ⟨e, -⟩ | ⟨e, -⟩ | ⟨e, -⟩ | ⟨-, e⟩ | ⟨e, -⟩ | ⟨e, -⟩ | ⟨e, -⟩
    all_goals first | exact e | (exfalso; omega)
theorem chg_14 {τ σ : ex_S} {y : Nat} {f : Nat → Int32} (h : σ.2 (y + 14) = some (.inl (0, 4096, f))) (hq : τ.2 (y + 14) = σ.2 (y + 14) ∨ chgd τ y (y + 14)) : ∃ f, τ.2 (y + 14) = some (.inl (0, 4096, f)) := by
  rcases hq with e | e
  · exact ⟨f, e.trans h⟩
  · unfold chgd at e
    rcases e with ⟨e, -⟩ | ⟨e, -⟩ | ⟨e, -⟩ | ⟨e, -⟩ | ⟨e, -⟩ | ⟨e, -⟩ | ⟨e, -⟩ | ⟨e, -⟩ | ⟨e, -⟩ | ⟨e, -⟩ | ⟨e, -⟩ | ⟨-, e⟩ | ⟨e, -⟩ | ⟨e, -⟩
    all_goals first | exact e | (exfalso; omega)
theorem chg_15 {τ σ : ex_S} {y : Nat} {f : Nat → Int32} (h : σ.2 (y + 15) = some (.inl (0, 6, f))) (hq : τ.2 (y + 15) = σ.2 (y + 15) ∨ chgd τ y (y + 15)) : ∃ f, τ.2 (y + 15) = some (.inl (0, 6, f)) := by
  rcases hq with e | e
  · exact ⟨f, e.trans h⟩
  · unfold chgd at e
    rcases e with ⟨e, -⟩ | ⟨e, -⟩ | ⟨e, -⟩ | ⟨e, -⟩ | ⟨e, -⟩ | ⟨e, -⟩ | ⟨e, -⟩ | ⟨e, -⟩ | ⟨e, -⟩ | ⟨e, -⟩ | ⟨e, -⟩ | ⟨e, -⟩ | ⟨-, e⟩ | ⟨e, -⟩
    all_goals first | exact e | (exfalso; omega)
theorem chg_16 {τ σ : ex_S} {y : Nat} {f : Nat → Int32} (h : σ.2 (y + 16) = some (.inl (0, 6, f))) (hq : τ.2 (y + 16) = σ.2 (y + 16) ∨ chgd τ y (y + 16)) : ∃ f, τ.2 (y + 16) = some (.inl (0, 6, f)) := by
  rcases hq with e | e
  · exact ⟨f, e.trans h⟩
  · unfold chgd at e
    rcases e with ⟨e, -⟩ | ⟨e, -⟩ | ⟨e, -⟩ | ⟨e, -⟩ | ⟨e, -⟩ | ⟨e, -⟩ | ⟨e, -⟩ | ⟨e, -⟩ | ⟨e, -⟩ | ⟨e, -⟩ | ⟨e, -⟩ | ⟨e, -⟩ | ⟨e, -⟩ | ⟨-, e⟩
    all_goals first | exact e | (exfalso; omega)
theorem chg_n1 {τ : ex_S} {y : Nat} (e : chgd τ y (y + 1)) : False := by
  unfold chgd at e
  rcases e with ⟨e, -⟩ | ⟨e, -⟩ | ⟨e, -⟩ | ⟨e, -⟩ | ⟨e, -⟩ | ⟨e, -⟩ | ⟨e, -⟩ | ⟨e, -⟩ | ⟨e, -⟩ | ⟨e, -⟩ | ⟨e, -⟩ | ⟨e, -⟩ | ⟨e, -⟩ | ⟨e, -⟩
  all_goals omega
theorem chg_n2 {τ : ex_S} {y : Nat} (e : chgd τ y (y + 2)) : False := by
  unfold chgd at e
  rcases e with ⟨e, -⟩ | ⟨e, -⟩ | ⟨e, -⟩ | ⟨e, -⟩ | ⟨e, -⟩ | ⟨e, -⟩ | ⟨e, -⟩ | ⟨e, -⟩ | ⟨e, -⟩ | ⟨e, -⟩ | ⟨e, -⟩ | ⟨e, -⟩ | ⟨e, -⟩ | ⟨e, -⟩
  all_goals omega
theorem chg_n13 {τ : ex_S} {y : Nat} (e : chgd τ y (y + 13)) : False := by
  unfold chgd at e
  rcases e with ⟨e, -⟩ | ⟨e, -⟩ | ⟨e, -⟩ | ⟨e, -⟩ | ⟨e, -⟩ | ⟨e, -⟩ | ⟨e, -⟩ | ⟨e, -⟩ | ⟨e, -⟩ | ⟨e, -⟩ | ⟨e, -⟩ | ⟨e, -⟩ | ⟨e, -⟩ | ⟨e, -⟩
  all_goals omega
theorem InvM.chg {σ τ : ex_S} {y : Nat} {T : Tol} {I : Nat → Option Tol} (h : InvM σ y T I) (hq : ∀ q, y ≤ q → q < y + 17 → τ.2 q = σ.2 q ∨ chgd τ y q) : InvM τ y T I := by
  obtain ⟨g, A, hs, rd, al, bs, bm, bz, tr, rw, op, lo, me, pb, pw, st, en, ⟨a1, a2⟩, a3, a4, b0, b1, b2, b3, b4, b5, b6, b7, b8, b9, b10, b11, b12, b13, b14, z1, z2⟩ := h
  obtain ⟨g2, d1⟩ := chg_0 a1 (hq _ (by omega) (by omega))
  obtain ⟨rd2, c1⟩ := chg_3 b1 (hq _ (by omega) (by omega))
  obtain ⟨al2, c2⟩ := chg_4 b2 (hq _ (by omega) (by omega))
  obtain ⟨bs2, c3⟩ := chg_5 b3 (hq _ (by omega) (by omega))
  obtain ⟨bm2, c4⟩ := chg_6 b4 (hq _ (by omega) (by omega))
  obtain ⟨bz2, c5⟩ := chg_7 b5 (hq _ (by omega) (by omega))
  obtain ⟨tr2, c6⟩ := chg_8 b6 (hq _ (by omega) (by omega))
  obtain ⟨rw2, c7⟩ := chg_9 b7 (hq _ (by omega) (by omega))
  obtain ⟨op2, c8⟩ := chg_10 b8 (hq _ (by omega) (by omega))
  obtain ⟨lo2, c9⟩ := chg_11 b9 (hq _ (by omega) (by omega))
  obtain ⟨me2, c10⟩ := chg_12 b10 (hq _ (by omega) (by omega))
  obtain ⟨pw2, c12⟩ := chg_14 b12 (hq _ (by omega) (by omega))
  obtain ⟨st2, c13⟩ := chg_15 b13 (hq _ (by omega) (by omega))
  obtain ⟨en2, c14⟩ := chg_16 b14 (hq _ (by omega) (by omega))
  exact ⟨g2, A, hs, rd2, al2, bs2, bm2, bz2, tr2, rw2, op2, lo2, me2, pb, pw2, st2, en2, ⟨d1, ((hq (y + 1) (by omega) (by omega)).resolve_right (fun c => chg_n1 c)).trans a2⟩, a3, a4, ((hq (y + 2) (by omega) (by omega)).resolve_right (fun c => chg_n2 c)).trans b0, c1, c2, c3, c4, c5, c6, c7, c8, c9, c10, ((hq (y + 13) (by omega) (by omega)).resolve_right (fun c => chg_n13 c)).trans b11, c12, c13, c14, z1, z2⟩
/-- the row 'all' may hold another tried school -/
theorem mT.low {A A1 : Nat → Int32} {b : Nat} {T : Tol} (h : mT A b T) (hb : b + 1090 ≤ 4360) (hw : wT T) (hA : ∀ q, q < 4360 → A1 q = A q) : mT A1 b T := by
  obtain ⟨h0, h1, h2, h3, h4, h5, h6, h7⟩ := h
  obtain ⟨-, w1, w2, w3, w4⟩ := hw
  refine ⟨(hA _ (by omega)).trans h0, (hA _ (by omega)).trans h1, (hA _ (by omega)).trans h2, (hA _ (by omega)).trans h3, (hA _ (by omega)).trans h4, fun i hi => (hA _ (by omega)).trans (h5 i hi), fun k hk => ?_, fun k hk => ?_⟩
  · have hS := h6 k hk
    have hw := w3 k hk
    have h16 := hw.1
    have h5 := hw.2.1
    obtain ⟨s0, s1, s2, s3, s4, s5⟩ := hS
    refine ⟨(hA _ (by omega)).trans s0, (hA _ (by omega)).trans s1, fun j hj => (hA _ (by omega)).trans (s2 j hj), fun i hi => ?_, fun i hi => ?_, fun d hd => ?_⟩
    · obtain ⟨e1, e2, e3, e4, e5⟩ := s3 i hi
      exact ⟨(hA _ (by omega)).trans e1, (hA _ (by omega)).trans e2, (hA _ (by omega)).trans e3, (hA _ (by omega)).trans e4, (hA _ (by omega)).trans e5⟩
    · obtain ⟨e1, e2⟩ := s4 i hi
      exact ⟨(hA _ (by omega)).trans e1, (hA _ (by omega)).trans e2⟩
    · obtain ⟨e1, e2⟩ := s5 d hd
      exact ⟨(hA _ (by omega)).trans e1, (hA _ (by omega)).trans e2⟩
  · have hP := h7 k hk
    have h6 := (w4 k hk).1
    obtain ⟨p0, p1⟩ := hP
    refine ⟨(hA _ (by omega)).trans p0, fun i hi f hf => (hA _ (by omega)).trans (p1 i hi f hf)⟩
theorem InvM.tried {σ τ : ex_S} {y : Nat} {T : Tol} {I : Nat → Option Tol} {A A1 : Nat → Int32} (h : InvM σ y T I) (hw : wT T) (hIw : ∀ k U, k < 3 → I k = some U → wT U ∧ fitT U) (hA0 : σ.2 (y + 1) = some (.inl (0, 4500, A))) (hA1 : τ.2 (y + 1) = some (.inl (0, 4500, A1))) (hlow : ∀ q, q < 4360 → A1 q = A q) {f : Nat → Int32} (hrow : τ.2 (y + 9) = some (.inl (0, 16, f))) (hq : ∀ q, q ≠ y + 1 → q ≠ y + 9 → τ.2 q = σ.2 q) : InvM τ y T I := by
  obtain ⟨g, A', hs, rd, al, bs, bm, bz, tr, rw, op, lo, me, pb, pw, st, en, ⟨a1, a2⟩, a3, a4, b0, b1, b2, b3, b4, b5, b6, b7, b8, b9, b10, b11, b12, b13, b14, z1, z2⟩ := h
  have eA : A' = A := by
    rw [hA0] at a2
    cases a2
    rfl
  subst eA
  exact ⟨g, A1, hs, rd, al, bs, bm, bz, tr, f, op, lo, me, pb, pw, st, en, ⟨(hq _ (by omega) (by omega)).trans a1, hA1⟩, a3.low (by omega) hw hlow, fun k U hk hU => (a4 k U hk hU).low (by omega) (hIw k U hk hU).1 hlow, (hq _ (by omega) (by omega)).trans b0, (hq _ (by omega) (by omega)).trans b1, (hq _ (by omega) (by omega)).trans b2, (hq _ (by omega) (by omega)).trans b3, (hq _ (by omega) (by omega)).trans b4, (hq _ (by omega) (by omega)).trans b5, (hq _ (by omega) (by omega)).trans b6, hrow, (hq _ (by omega) (by omega)).trans b8, (hq _ (by omega) (by omega)).trans b9, (hq _ (by omega) (by omega)).trans b10, (hq _ (by omega) (by omega)).trans b11, (hq _ (by omega) (by omega)).trans b12, (hq _ (by omega) (by omega)).trans b13, (hq _ (by omega) (by omega)).trans b14, z1, z2⟩
theorem CallC.X {Γ : ex_G} {x z lo hi : Nat} {as : List Value} {σ : ex_S} {v : Int32} {T : Tol} {I : Nat → Option Tol} {Rr : ex_S → Prop} (h : Inv σ x T I) (hr : RetX Γ z (.ref x :: as) σ lo hi (some (.int v)) Rr) (hhi : hi ≤ x + 117) (hC : ∀ τ, frm σ τ lo hi → Rr τ → InvC τ x T I) : CallC Γ x z as σ v T T I I := by
  refine ⟨0, 0, by omega, by omega, Ret.imp hr (fun r τ q => ?_)⟩
  obtain ⟨q1, q2, q3⟩ := q
  obtain ⟨hc, hm, h3, h4, h5, h6⟩ := h
  exact ⟨q1, hC τ q2 q3, hm.cls q2 hhi, h3, h4, h5, by rw [q2.1]; exact h6⟩
theorem CallM.X {Γ : ex_G} {x z lo hi : Nat} {as : List Value} {σ : ex_S} {v : Int32} {T : Tol} {I : Nat → Option Tol} {Rr : ex_S → Prop} (h : Mid σ x T T I I) (hr : RetX Γ z (.ref (x + 117) :: as) σ lo hi (some (.int v)) Rr) (hlo : x + 117 ≤ lo ∧ hi ≤ x + 134) (hM : ∀ τ, frm σ τ lo hi → Rr τ → InvM τ (x + 117) T I) : CallM Γ x z as σ v T I := by
  refine Ret.imp hr (fun r τ q => ?_)
  obtain ⟨q1, q2, q3⟩ := q
  obtain ⟨hc, hm, h3, h4, h5, h6⟩ := h
  exact ⟨q1, hc.ref (q2.mono hlo.1 (by omega)), hM τ q2 q3, h3, h4, h5, by rw [q2.1]; exact h6⟩
theorem Inv.sp {σ : ex_S} {x : Nat} {T : Tol} {I : Nat → Option Tol} (h : Inv σ x T I) : ∃ D, isS σ (x + 84) D := h.1.2.2.2.2.1
end
