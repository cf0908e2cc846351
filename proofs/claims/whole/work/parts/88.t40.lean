/-! Both answer alike: beside. -/
noncomputable section
theorem InvM.bes {σ τ : ex_S} {y : Nat} {T : Tol} {I : Nat → Option Tol} (h : InvM σ y T I) (r : ∃ g1 me pb pw : Nat → Int32, τ.2 (y) = some (.inr (.inr (10, mo (y) g1))) ∧ τ.2 (y + 12) = some (.inl (0, 16, me)) ∧ τ.2 (y + 13) = some (.inl (0, 4096, pb)) ∧ τ.2 (y + 14) = some (.inl (0, 4096, pw)) ∧ (∀ q, q ≠ y → q ≠ y + 12 → q ≠ y + 13 → q ≠ y + 14 → τ.2 q = σ.2 q) ∧ pb 0 = 0) : InvM τ y T I := by
  obtain ⟨g1, me1, pb1, pw1, h0, h12, h13, h14, kp, hpb⟩ := r
  obtain ⟨g, A, hs, rd, al, bs, bm, bz, tr, rw, op, lo, me, pb, pw, st, en, ⟨a1, a2⟩, a3, a4, b0, b1, b2, b3, b4, b5, b6, b7, b8, b9, b10, b11, b12, b13, b14, z1, z2⟩ := h
  exact ⟨g1, A, hs, rd, al, bs, bm, bz, tr, rw, op, lo, me1, pb1, pw1, st, en, ⟨h0, (kp _ (by omega) (by omega) (by omega) (by omega)).trans a2⟩, a3, a4, (kp _ (by omega) (by omega) (by omega) (by omega)).trans b0, (kp _ (by omega) (by omega) (by omega) (by omega)).trans b1, (kp _ (by omega) (by omega) (by omega) (by omega)).trans b2, (kp _ (by omega) (by omega) (by omega) (by omega)).trans b3, (kp _ (by omega) (by omega) (by omega) (by omega)).trans b4, (kp _ (by omega) (by omega) (by omega) (by omega)).trans b5, (kp _ (by omega) (by omega) (by omega) (by omega)).trans b6, (kp _ (by omega) (by omega) (by omega) (by omega)).trans b7, (kp _ (by omega) (by omega) (by omega) (by omega)).trans b8, (kp _ (by omega) (by omega) (by omega) (by omega)).trans b9, h12, h13, h14, (kp _ (by omega) (by omega) (by omega) (by omega)).trans b13, (kp _ (by omega) (by omega) (by omega) (by omega)).trans b14, z1, hpb⟩
theorem Mid.bes {σ : ex_S} {x : Nat} {T T' : Tol} {I I' : Nat → Option Tol} (h : Mid σ x T T' I I') : ∃ g A me pb pw : Nat → Int32, isM σ (x + 117) g A ∧ mT A 0 T ∧ σ.2 (x + 117 + 12) = some (.inl (0, 16, me)) ∧ σ.2 (x + 117 + 13) = some (.inl (0, 4096, pb)) ∧ σ.2 (x + 117 + 14) = some (.inl (0, 4096, pw)) ∧ pb 0 = 0 := by
  obtain ⟨g, A, hs, rd, al, bs, bm, bz, tr, rw, op, lo, me, pb, pw, st, en, hM, hmT, -, b0, b1, b2, b3, b4, b5, b6, b7, b8, b9, b10, b11, b12, b13, b14, -, z2⟩ := id h.2.1
  exact ⟨g, A, me, pb, pw, hM, hmT, b10, b11, b12, z2⟩
theorem bes_ref {Γ : ex_G} {σ : ex_S} {x : Nat} {T : Tol} {I : Nat → Option Tol} {v0 : Int32} {as : List Value} (hτ : Mid σ x T T I I) (hr : RetX Γ m_M_beside (.ref (x + 117) :: as) σ (x + 117) (x + 117 + 17) (some (.int v0)) (fun τ => ∃ g1 me pb pw : Nat → Int32, τ.2 (x + 117) = some (.inr (.inr (10, mo (x + 117) g1))) ∧ τ.2 (x + 117 + 12) = some (.inl (0, 16, me)) ∧ τ.2 (x + 117 + 13) = some (.inl (0, 4096, pb)) ∧ τ.2 (x + 117 + 14) = some (.inl (0, 4096, pw)) ∧ (∀ q, q ≠ x + 117 → q ≠ x + 117 + 12 → q ≠ x + 117 + 13 → q ≠ x + 117 + 14 → τ.2 q = σ.2 q) ∧ pb 0 = 0)) : CallM Γ x m_M_beside as σ v0 T I :=
  CallM.X hτ hr ⟨by omega, by omega⟩ (fun υ f r => hτ.2.1.bes r)
/-- the class's side when the benches and their table have been written -/
theorem InvC.bes {σ τ : ex_S} {x b n : Nat} {T : Tol} {I : Nat → Option Tol} {im : Nat → Option Nat} {be ne1 wo1 co1 : Nat → Int32} (h : InvC σ x T I) (hx : x + 134 ≤ σ.1) (hI : cI σ x I im) (hlo : ∀ p, p < σ.1 → ¬ (x + 108 ≤ p ∧ p < x + 108 + 4) → p ≠ b → τ.2 p = σ.2 p) (hsz : σ.1 ≤ τ.1) (hb : x + 134 ≤ b) (hb2 : b + 1 ≤ τ.1) (hbi : ∀ k a, k < 3 → im k = some a → b < a ∨ a + 61 ≤ b) (hn : n ≤ 12) (o1 : τ.2 (x + 108) = some (.inr (.inr (8, [.ref (x + 108 + 1), .ref (x + 108 + 2), .ref (x + 108 + 3), .ref b, .int (nI n)])))) (o2 : τ.2 (x + 108 + 1) = some (.inl (0, 12, wo1))) (o3 : τ.2 (x + 108 + 2) = some (.inl (0, 144, co1))) (o4 : τ.2 (x + 108 + 3) = some (.inl (0, 16, ne1))) (o5 : τ.2 b = some (.inl (0, 4096, be))) : InvC τ x T I := by
  obtain ⟨hX, hT0, -, hcR, hcS, hcL, hcN, hcH, hcE, hcF, hcW⟩ := h
  obtain ⟨υ, hυ⟩ : ∃ υ : ex_S, υ = (τ.1, fun p => if x + 108 ≤ p ∧ p < x + 112 then σ.2 p else τ.2 p) := ⟨_, rfl⟩
  have hf : frm υ τ (x + 108) (x + 112) := by
    subst hυ
    exact ⟨rfl, fun p hp => (if_neg (by omega)).symm⟩
  have hυ1 : υ.1 = τ.1 := by rw [hυ]
  have k0 : ∀ p, p < σ.1 → p ≠ b → υ.2 p = σ.2 p := fun p h1 h2 => by
    subst hυ
    show (if x + 108 ≤ p ∧ p < x + 112 then σ.2 p else τ.2 p) = σ.2 p
    by_cases c : x + 108 ≤ p ∧ p < x + 112
    · rw [if_pos c]
    · rw [if_neg c]
      exact hlo p h1 (by omega) h2
  have kp : ∀ q, x ≤ q → q < x + 117 → q ≠ x + 62 → υ.2 q = σ.2 q := fun q h1 h2 _ => k0 q (by omega) (by omega)
  have hcR := (hcR.keep kp).frm hf (by omega)
  have hcS := (hcS.keep kp).frm hf (by omega)
  have hcL := (hcL.keep kp).frm hf (by omega)
  have hcN := (hcN.keep kp).frm hf (by omega)
  have hcH := (hcH.keep kp).frm hf (by omega)
  have hcE := (hcE.keep kp).frm hf (by omega)
  have hcF := (hcF.keep kp).frm hf (by omega)
  have hcW := (hcW.keep kp).frm hf (by omega)
  refine ⟨(hlo x (by omega) (by omega) (by omega)).trans hX, hT0.keep (fun q h1 h2 => hlo q (by omega) (by omega) (by omega)), ⟨im, fun _ => some b, ?_, ?_⟩, hcR, hcS, hcL, hcN, hcH, hcE, hcF, hcW⟩
  · obtain ⟨c1, c2, c3⟩ := hI
    refine ⟨(hlo _ (by omega) (by omega) (by omega)).trans c1, fun j hj => ?_, c3⟩
    rcases c2 j hj with i1 | ⟨c, U, i1, i2, i3, i4, i5⟩
    · exact Or.inl i1
    · have hbj := hbi j c hj i2
      exact Or.inr ⟨c, U, i1, i2, i3.keep (fun q h1 h2 => hlo q (by omega) (by omega) (by omega)), i4, by omega⟩
  · refine ⟨n, wo1, co1, ne1, o1, hn, o2, o3, o4, fun b' e => ?_⟩
    cases e
    exact ⟨⟨be, o5⟩, hb, hb2, hbi⟩
theorem bes_cls {σ τ : ex_S} {x n : Nat} {T : Tol} {I : Nat → Option Tol} {im bb : Nat → Option Nat} {bo : Option Nat} (h : Inv σ x T I) (hI : cI σ x I im) (hB : cB σ x im bb) (hbo : bo = bb 0) (hn : n ≤ 12) (r : ∃ (b : Nat) (be ne1 wo1 co1 : Nat → Int32), (bo = some b ∧ τ.1 = σ.1 ∨ bo = none ∧ b = σ.1 ∧ τ.1 = σ.1 + 1) ∧ (∀ p, p < σ.1 → ¬ (x + 108 ≤ p ∧ p < x + 108 + 4) → p ≠ b → τ.2 p = σ.2 p) ∧ x + 108 + 4 ≤ b ∧ τ.2 (x + 108) = some (.inr (.inr (8, [.ref (x + 108 + 1), .ref (x + 108 + 2), .ref (x + 108 + 3), .ref b, .int (nI n)]))) ∧ τ.2 (x + 108 + 1) = some (.inl (0, 12, wo1)) ∧ τ.2 (x + 108 + 2) = some (.inl (0, 144, co1)) ∧ τ.2 (x + 108 + 3) = some (.inl (0, 16, ne1)) ∧ τ.2 b = some (.inl (0, 4096, be))) : Mid τ x T T I I := by
  obtain ⟨b, be, ne1, wo1, co1, e1, e2, e3, o1, o2, o3, o4, o5⟩ := r
  obtain ⟨n0, wo, co, ne, a1, a2, a3, a4, a5, a6⟩ := hB
  have hx := h.2.2.2.2.2
  have hb : x + 134 ≤ b ∧ b + 1 ≤ τ.1 ∧ σ.1 ≤ τ.1 ∧ ∀ k a, k < 3 → im k = some a → b < a ∨ a + 61 ≤ b := by
    rcases e1 with ⟨e, e0⟩ | ⟨e, e0, e9⟩
    · obtain ⟨-, b2, b3, b4⟩ := a6 b (hbo.symm.trans e)
      exact ⟨b2, by omega, by omega, b4⟩
    · refine ⟨by omega, by omega, by omega, fun k a hk ha => ?_⟩
      rcases hI.2.1 k hk with ⟨-, i2⟩ | ⟨c, U, -, i2, -, -, i5⟩
      · rw [ha] at i2; cases i2
      · rw [ha] at i2; cases i2; omega
  obtain ⟨b1, b2, b3, b4⟩ := hb
  exact ⟨h.1.bes hx hI e2 b3 b1 b2 b4 hn o1 o2 o3 o4 o5, h.2.1.of (fun q h1 h2 => e2 q (by omega) (by omega) (by omega)), h.2.2.1, h.2.2.2.1, h.2.2.2.2.1, by omega⟩
theorem pr_beside {Γ : ex_G} {x : Nat} (u v : Int32) (k l : Int32) : Pair Γ x m_SD_beside m_M_beside [.int u, .int v, .int k, .int l] := by
  intro σ T I h
  obtain ⟨hX, hT, hw⟩ := h.c
  by_cases hg : ∃ i j, gd T u v i j
  · obtain ⟨i, j, hg⟩ := hg
    have hwS := hw.2.2.2.1 i hg.2.1
    have hwP := hw.2.2.2.2 j hg.2.2.2.1
    have hgo := hg.2.2.2.2
    have hn16 := hwS.1
    have h6 := hwP.1
    rcases ix_cases k (n := (tP T j).1) (by omega) with hk | hk | ⟨k0, hkk, rfl⟩
    · refine ⟨_, T, I, CallC.pure h (beside_nok_some hX hT hw hg k l (Or.inl hk)), fun τ hτ => ?_⟩
      obtain ⟨g, A, hM, hmT⟩ := hτ.m
      exact CallM.pure hτ (m_beside_nok hM hmT hw hg (Or.inl hk) l)
    · refine ⟨_, T, I, CallC.pure h (beside_nok_some hX hT hw hg k l (Or.inr hk)), fun τ hτ => ?_⟩
      obtain ⟨g, A, hM, hmT⟩ := hτ.m
      exact CallM.pure hτ (m_beside_nok hM hmT hw hg (Or.inr hk) l)
    obtain ⟨m, hm, hsm⟩ := (hgo k0 hkk).2
    have hm16 : m < 65536 := Nat.lt_of_lt_of_le hm (p16 hn16)
    have hbc : K_bc ((tP T j).2 k0 5) = nI (bcn m (tS T i).1) := by rw [hsm, bc_nI (by omega), pop_bcn, bcn_top hm 17 (by omega)]
    have hb16 : bcn m (tS T i).1 ≤ 16 := Nat.le_trans bcn_leN hn16
    by_cases hb : bcn m (tS T i).1 ≤ 12
    · have hbn : ¬ (12 : Int32) < K_bc ((tP T j).2 k0 5) := by
        rw [hbc]
        exact nI_nlt (a := 12) hb (by omega)
      obtain ⟨im, bb, hcI, hcB⟩ := h.1.2.2.1
      obtain ⟨n0, wo, co, ne, o1, o2, o3, o4, o5, o6⟩ := id hcB
      have hbo : ∀ b, bb 0 = some b → (∃ f, σ.2 b = some (.inl (0, 4096, f))) ∧ x + 108 + 4 ≤ b ∧ b + 1 ≤ σ.1 := fun b e => by
        obtain ⟨q1, q2, q3, -⟩ := o6 b e
        exact ⟨q1, by omega, q3⟩
      obtain ⟨B, hB⟩ := Tb_ex (bcn m (tS T i).1) (tvS (tS T i) m) (2 ^ bcn m (tS T i).1) (Nat.le_refl _)
      by_cases hl1 : l = -1
      · subst hl1
        refine ⟨_, T, I, ⟨1, 4096, by omega, by omega, Ret.imp (beside_all hX hT hw hg hkk o1 o3 o4 o5 hbo h.2.2.2.2.2 hm hsm rfl hb hB) (fun r τ q => ⟨q.1, bes_cls h hcI hcB rfl hb q.2⟩)⟩, fun τ hτ => ?_⟩
        obtain ⟨g, A, me, pb, pw, hM, hmT, b10, b11, b12, hp0⟩ := hτ.bes
        exact bes_ref hτ (m_beside_all hM hmT hw b10 b11 b12 hg hkk hm hsm hp0 hb hB)
      rcases ix_cases l (n := (tS T i).1) (by omega) with hl | hl | ⟨l0, hl, rfl⟩
      · refine ⟨_, T, I, CallC.pure h (beside_nol_some hX hT hw hg hkk hbn hl1 (Or.inl hl)), fun τ hτ => ?_⟩
        obtain ⟨g, A, me, pb, pw, hM, hmT, b10, b11, b12, hp0⟩ := hτ.bes
        exact bes_ref hτ (m_beside_nol hM hmT hw b10 b11 b12 hg hkk hm hsm hp0 hb hl1 (Or.inl hl))
      · refine ⟨_, T, I, CallC.pure h (beside_nol_some hX hT hw hg hkk hbn hl1 (Or.inr hl)), fun τ hτ => ?_⟩
        obtain ⟨g, A, me, pb, pw, hM, hmT, b10, b11, b12, hp0⟩ := hτ.bes
        exact bes_ref hτ (m_beside_nol hM hmT hw b10 b11 b12 hg hkk hm hsm hp0 hb hl1 (Or.inr hl))
      by_cases hsl : m.testBit l0 = true
      · have hp : bcn m l0 < bcn m (tS T i).1 := bcn_ne hsl hl
        have hlp : wh m (bcn m l0) = l0 := wh_at (by omega) hsl
        have hF : (2 ^ bcn m (tS T i).1 - 1).testBit (bcn m l0) = true := by
          rw [Nat.testBit_two_pow_sub_one]
          simp [hp]
        have h2p := Nat.two_pow_pos (bcn m (tS T i).1)
        obtain ⟨r0, -, hq⟩ := Prt_ex hB hp _ (by omega) hF
        refine ⟨_, T, I, ⟨1, 4096, by omega, by omega, Ret.imp (beside_one hX hT hw hg hkk o1 o3 o4 o5 hbo h.2.2.2.2.2 hm hsm rfl hb hB hl hsl hp hlp hq) (fun r τ q => ⟨q.1, bes_cls h hcI hcB rfl hb q.2⟩)⟩, fun τ hτ => ?_⟩
        obtain ⟨g, A, me, pb, pw, hM, hmT, b10, b11, b12, hp0⟩ := hτ.bes
        exact bes_ref hτ (m_beside_one hM hmT hw b10 b11 b12 hg hkk hm hsm hp0 hb hB hl hsl hp hlp hq)
      · have hs0 : m.testBit l0 = false := by simpa using hsl
        refine ⟨_, T, I, CallC.pure h (beside_nos_some hX hT hw hg hkk hl hbn (by rw [hsm]; exact (nbit (by omega) (by omega)).mpr hs0)), fun τ hτ => ?_⟩
        obtain ⟨g, A, me, pb, pw, hM, hmT, b10, b11, b12, hp0⟩ := hτ.bes
        exact bes_ref hτ (m_beside_nos hM hmT hw b10 b11 b12 hg hkk hm hsm hp0 hb hl hs0)
    · refine ⟨_, T, I, CallC.pure h (beside_many_some hX hT hw hg hkk (l := l) (by rw [hbc]; exact nI_lt (a := 12) (by omega) (by omega))), fun τ hτ => ?_⟩
      obtain ⟨g, A, me, pb, pw, hM, hmT, b10, b11, b12, hp0⟩ := hτ.bes
      exact bes_ref hτ (m_beside_many hM hmT hw b10 b11 b12 hg hkk hm hsm hp0 (by omega))
  · refine ⟨_, T, I, CallC.pure h (beside_none hX hT hw hg k l), fun τ hτ => ?_⟩
    obtain ⟨g, A, hM, hmT⟩ := hτ.m
    exact CallM.pure hτ (m_beside_none hM hmT hw hg k l)
end
