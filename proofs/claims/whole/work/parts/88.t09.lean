/-! Both answer alike: line, ill, seats. -/
noncomputable section
theorem pr_line {Γ : ex_G} {x : Nat} (u k w : Int32) : Pair Γ x m_SD_line m_M_line [.int u, .int k, .int w] := by
  intro σ T I h
  obtain ⟨hX, hT, hw⟩ := h.c
  have hIw := h.2.2.2.2.1
  have hn1 := hw.2.1
  rcases ix_cases u (n := tSn T) (by omega) with hu | hu | ⟨i, hi, rfl⟩
  · skip
    refine ⟨_, T, I, CallC.pure h (line_none hX hT hw (Or.inl hu) k w), fun τ hτ => ?_⟩
    obtain ⟨g, A, hM, hmT⟩ := hτ.m
    exact CallM.pure hτ (m_line_none hM hmT hw (Or.inl hu) k w)
  · skip
    refine ⟨_, T, I, CallC.pure h (line_none hX hT hw (Or.inr hu) k w), fun τ hτ => ?_⟩
    obtain ⟨g, A, hM, hmT⟩ := hτ.m
    exact CallM.pure hτ (m_line_none hM hmT hw (Or.inr hu) k w)
  · have hwS := hw.2.2.2.1 i hi
    have hg : nI i = nI i ∧ i < tSn T := ⟨rfl, hi⟩
    rcases int_cases (w := k) (x := 1) (y := 6) (a := 1) (b := 6) rfl rfl (by omega) (by omega) with hb | ⟨hc, hb⟩ | ⟨k0, hk1, hk6, rfl⟩
    · skip
      refine ⟨_, T, I, CallC.pure h (line_lo_some hX hT hw hg hb), fun τ hτ => ?_⟩
      obtain ⟨g, A, hM, hmT⟩ := hτ.m
      exact CallM.pure hτ (m_line_bad_some hM hmT hw hg (Or.inl hb))
    · skip
      refine ⟨_, T, I, CallC.pure h (line_hi_some hX hT hw hg hc hb), fun τ hτ => ?_⟩
      obtain ⟨g, A, hM, hmT⟩ := hτ.m
      exact CallM.pure hτ (m_line_bad_some hM hmT hw hg (Or.inr hb))
    · obtain ⟨n0, c0, lt, cu, D, ro, wo, ws, be, sz, ct, z0, z1, z2, z3, z4, z5, z6, z7, hD⟩ : cN σ x := h.1.2.2.2.2.2.2.1
      refine ⟨_, T, I, CallC.X h (line_some hX hT hw hg z0 z1 z2 z3 z4 z5 z6 z7 hD hk1 hk6 w) (by omega) (fun τ f r => h.1.upcN f ⟨_, _, _, _, D, _, _, _, _, _, _, r.1, r.2.1, r.2.2.1, r.2.2.2.1, r.2.2.2.2.1, r.2.2.2.2.2.1, r.2.2.2.2.2.2.1, r.2.2.2.2.2.2.2, hD⟩), fun τ hτ => ?_⟩
      obtain ⟨g, A, hs, rd, al, bs, bm, bz, tr, rw, op, lo, me, pb, pw, st, en, hM, hmT, -, b0, b1, b2, b3, b4, b5, b6, b7, b8, b9, b10, b11, b12, b13, b14, -, -⟩ := id hτ.2.1
      have hr := m_line_some (Γ := Γ) hM hmT hw b2 b3 b4 b5 hg hk1 hk6 w
      rw [← line_eq (D := D) (ro := ro) (wo := wo) (ws := ws) (be := be) (sz := sz) (st := ct) (u := cu) hwS hD hk1 hk6] at hr
      refine CallM.X hτ hr ⟨by omega, by omega⟩ (fun υ f r => ?_)
      obtain ⟨q1, q2, q3, q4, q5, q6⟩ := r
      exact InvM.chg hτ.2.1 (fun q h1 h2 => by
              by_cases e0 : q = x + 117
              · subst e0; exact Or.inr (Or.inl ⟨rfl, _, q1⟩)
              by_cases e1 : q = x + 117 + 4
              · subst e1; exact Or.inr (Or.inr (Or.inr (Or.inl ⟨rfl, _, q2⟩)))
              by_cases e2 : q = x + 117 + 5
              · subst e2; exact Or.inr (Or.inr (Or.inr (Or.inr (Or.inl ⟨rfl, _, q3⟩))))
              by_cases e3 : q = x + 117 + 6
              · subst e3; exact Or.inr (Or.inr (Or.inr (Or.inr (Or.inr (Or.inl ⟨rfl, _, q4⟩)))))
              by_cases e4 : q = x + 117 + 7
              · subst e4; exact Or.inr (Or.inr (Or.inr (Or.inr (Or.inr (Or.inr (Or.inl ⟨rfl, _, q5⟩))))))
              exact Or.inl (q6 q e0 e1 e2 e3 e4))
theorem pr_ill {Γ : ex_G} {x : Nat} (u v : Int32) (t : Int32) : Pair Γ x m_SD_ill m_M_ill [.int u, .int v, .int t] := by
  intro σ T I h
  obtain ⟨hX, hT, hw⟩ := h.c
  have hIw := h.2.2.2.2.1
  by_cases hg : ∃ i j, gd T u v i j
  · obtain ⟨i, j, hg⟩ := hg
    have hwS := hw.2.2.2.1 i hg.2.1
    have hwP := hw.2.2.2.2 j hg.2.2.2.1
    have hgo := hg.2.2.2.2
    have hn16 := hwS.1
    have h6 := hwP.1
    rcases ix_cases t (n := (tS T i).2.1) (by have := hwS.2.1; omega) with ht | ht | ⟨t, ht, rfl⟩
    · skip
      refine ⟨_, T, I, CallC.pure h (ill_not_some hX hT hw hg (Or.inl ht)), fun τ hτ => ?_⟩
      obtain ⟨g, A, hM, hmT⟩ := hτ.m
      exact CallM.pure hτ (m_ill_not_some hM hmT hw hg (Or.inl ht))
    · skip
      refine ⟨_, T, I, CallC.pure h (ill_not_some hX hT hw hg (Or.inr ht)), fun τ hτ => ?_⟩
      obtain ⟨g, A, hM, hmT⟩ := hτ.m
      exact CallM.pure hτ (m_ill_not_some hM hmT hw hg (Or.inr ht))
    · obtain ⟨n0, wo, be, we, z0, z1, z2, z3⟩ : cH σ x := h.1.2.2.2.2.2.2.2.1
      refine ⟨_, T, I, CallC.X h (ill_some hX hT hw hg z0 z1 z2 z3 ht) (by omega) (fun τ f r => h.1.upcH f ⟨_, _, _, _, r⟩), fun τ hτ => ?_⟩
      obtain ⟨g, A, hs, rd, al, bs, bm, bz, tr, rw, op, lo, me, pb, pw, st, en, hM, hmT, -, b0, b1, b2, b3, b4, b5, b6, b7, b8, b9, b10, b11, b12, b13, b14, -, -⟩ := id hτ.2.1
      have hr := m_ill_some (Γ := Γ) hM hmT hw b9 b6 b7 hg ht
      rw [← ill_eq (n0 := n0) (wo := wo) (be := be) (we := we) hwS hwP hgo] at hr
      refine CallM.X hτ hr ⟨by omega, by omega⟩ (fun υ f r => ?_)
      obtain ⟨q1, q2, q3, q4⟩ := r
      exact InvM.chg hτ.2.1 (fun q h1 h2 => by
              by_cases e0 : q = x + 117
              · subst e0; exact Or.inr (Or.inl ⟨rfl, _, q1⟩)
              by_cases e1 : q = x + 117 + 8
              · subst e1; exact Or.inr (Or.inr (Or.inr (Or.inr (Or.inr (Or.inr (Or.inr (Or.inl ⟨rfl, _, q3⟩)))))))
              by_cases e2 : q = x + 117 + 11
              · subst e2; exact Or.inr (Or.inr (Or.inr (Or.inr (Or.inr (Or.inr (Or.inr (Or.inr (Or.inr (Or.inr (Or.inl ⟨rfl, _, q2⟩))))))))))
              exact Or.inl (q4 q e0 e1 e2))
  · skip
    refine ⟨_, T, I, CallC.pure h (ill_none hX hT hw hg t), fun τ hτ => ?_⟩
    obtain ⟨g, A, hM, hmT⟩ := hτ.m
    exact CallM.pure hτ (m_ill_none hM hmT hw hg t)
theorem pr_seats {Γ : ex_G} {x : Nat} (u v : Int32) (w : Int32) : Pair Γ x m_SD_seats m_M_seats [.int u, .int v, .int w] := by
  intro σ T I h
  obtain ⟨hX, hT, hw⟩ := h.c
  have hIw := h.2.2.2.2.1
  by_cases hg : ∃ i j, gd T u v i j
  · obtain ⟨i, j, hg⟩ := hg
    have hwS := hw.2.2.2.1 i hg.2.1
    have hwP := hw.2.2.2.2 j hg.2.2.2.1
    have hgo := hg.2.2.2.2
    have hn16 := hwS.1
    have h6 := hwP.1
    by_cases b8 : (8 : Int32) < nI (tS T i).1
    · skip
      refine ⟨_, T, I, CallC.pure h (seats_b8_some hX hT hw hg b8), fun τ hτ => ?_⟩
      obtain ⟨g, A, hM, hmT⟩ := hτ.m
      exact CallM.pure hτ (m_seats_b8_some hM hmT hw hg b8)
    by_cases b3 : (3 : Int32) < nI (tP T j).1
    · skip
      refine ⟨_, T, I, CallC.pure h (seats_b3_some hX hT hw hg b8 b3), fun τ hτ => ?_⟩
      obtain ⟨g, A, hM, hmT⟩ := hτ.m
      exact CallM.pure hτ (m_seats_b3_some hM hmT hw hg b8 b3)
    have hs8 : (tS T i).1 ≤ 8 := by
      have e : (8 : Int32) = nI 8 := rfl
      rw [e, lt_toInt, nI_toInt (by omega), nI_toInt (by omega)] at b8
      omega
    have hp3 : (tP T j).1 ≤ 3 := by
      have e : (3 : Int32) = nI 3 := rfl
      rw [e, lt_toInt, nI_toInt (by omega), nI_toInt (by omega)] at b3
      omega
    by_cases hw0 : w = 0
    · subst hw0
      obtain ⟨n0, wo, be, we, z0, z1, z2, z3⟩ : cH σ x := h.1.2.2.2.2.2.2.2.1
      refine ⟨_, T, I, CallC.X h (seats0_some hX hT hw hg z0 z1 z2 z3 hs8 hp3) (by omega) (fun τ f r => h.1.upcH f ⟨_, _, _, _, r⟩), fun τ hτ => ?_⟩
      obtain ⟨g, A, hs, rd, al, bs, bm, bz, tr, rw, op, lo, me, pb, pw, st, en, hM, hmT, -, b0, b1, b2, b3, b4, b5, b6, b7, b8, b9, b10, b11, b12, b13, b14, -, -⟩ := id hτ.2.1
      have hr := m_seats0_some (Γ := Γ) hM hmT hw b6 b7 hg hs8 hp3
      rw [← seats0_eq (wo := wo) (be := be) (we := we) hwS hwP hs8 hp3] at hr
      refine CallM.X hτ hr ⟨by omega, by omega⟩ (fun υ f r => ?_)
      obtain ⟨q1, q2, q3⟩ := r
      exact InvM.chg hτ.2.1 (fun q h1 h2 => by
              by_cases e0 : q = x + 117 + 8
              · subst e0; exact Or.inr (Or.inr (Or.inr (Or.inr (Or.inr (Or.inr (Or.inr (Or.inl ⟨rfl, _, q1⟩)))))))
              by_cases e1 : q = x + 117 + 9
              · subst e1; exact Or.inr (Or.inr (Or.inr (Or.inr (Or.inr (Or.inr (Or.inr (Or.inr (Or.inl ⟨rfl, _, q2⟩))))))))
              exact Or.inl (q3 q e0 e1))
    by_cases hlo : w < 10
    · skip
      refine ⟨_, T, I, CallC.pure h (seats_lo_some hX hT hw hg b8 b3 hw0 hlo), fun τ hτ => ?_⟩
      obtain ⟨g, A, hM, hmT⟩ := hτ.m
      exact CallM.pure hτ (m_seats_bad_some hM hmT hw hg b8 b3 hw0 (K_in_bad (Or.inl hlo)))
    have e10 : (10 : Int32) + nI (tS T i).1 = nI (10 + (tS T i).1) := nI_add 10 (tS T i).1
    by_cases hhi : w < (10 : Int32) + nI (tS T i).1
    · obtain ⟨l, hl, rfl, -⟩ := ix_vp hlo hhi (A := 10) (n := (tS T i).1) rfl e10 (by omega)
      obtain ⟨n0, wo, be, we, z0, z1, z2, z3⟩ : cH σ x := h.1.2.2.2.2.2.2.2.1
      refine ⟨_, T, I, CallC.X h (seatsL_some hX hT hw hg z0 z1 z2 z3 hs8 hp3 hl) (by omega) (fun τ f r => h.1.upcH f ⟨_, _, _, _, r⟩), fun τ hτ => ?_⟩
      obtain ⟨g, A, hs, rd, al, bs, bm, bz, tr, rw, op, lo, me, pb, pw, st, en, hM, hmT, -, b0, b1, b2, b3, b4, b5, b6, b7, b8, b9, b10, b11, b12, b13, b14, -, -⟩ := id hτ.2.1
      have hr := m_seatsL_some (Γ := Γ) hM hmT hw b6 b7 hg hs8 hp3 hl
      rw [← seatsL_eq (wo := wo) (be := be) (we := we) hwS hwP hs8 hp3 hl] at hr
      refine CallM.X hτ hr ⟨by omega, by omega⟩ (fun υ f r => ?_)
      obtain ⟨q1, q2, q3⟩ := r
      exact InvM.chg hτ.2.1 (fun q h1 h2 => by
              by_cases e0 : q = x + 117 + 8
              · subst e0; exact Or.inr (Or.inr (Or.inr (Or.inr (Or.inr (Or.inr (Or.inr (Or.inl ⟨rfl, _, q1⟩)))))))
              by_cases e1 : q = x + 117 + 9
              · subst e1; exact Or.inr (Or.inr (Or.inr (Or.inr (Or.inr (Or.inr (Or.inr (Or.inr (Or.inl ⟨rfl, _, q2⟩))))))))
              exact Or.inl (q3 q e0 e1))
    have hb : (9 : Int32) + nI (tS T i).1 < w := by
      have e9 : (9 : Int32) + nI (tS T i).1 = nI (9 + (tS T i).1) := nI_add 9 (tS T i).1
      rw [e10, lt_toInt, nI_toInt (by omega)] at hhi
      rw [e9, lt_toInt, nI_toInt (by omega)]
      omega
    refine ⟨_, T, I, CallC.pure h (seats_hi_some hX hT hw hg b8 b3 hw0 hlo hhi), fun τ hτ => ?_⟩
    obtain ⟨g, A, hM, hmT⟩ := hτ.m
    exact CallM.pure hτ (m_seats_bad_some hM hmT hw hg b8 b3 hw0 (K_in_bad (Or.inr hb)))
  · skip
    refine ⟨_, T, I, CallC.pure h (seats_none hX hT hw hg w), fun τ hτ => ?_⟩
    obtain ⟨g, A, hM, hmT⟩ := hτ.m
    exact CallM.pure hτ (m_seats_none hM hmT hw hg w)
end
