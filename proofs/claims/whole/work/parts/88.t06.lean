/-! Both answer alike: the methods that write scratch. -/
noncomputable section
theorem int_cases {w x y : Int32} {a b : Nat} (hx : x = nI a) (hy : y = nI b) (hb : b < 2 ^ 31) (hab : a ≤ b) : w < x ∨ (¬ w < x ∧ y < w) ∨ ∃ n, a ≤ n ∧ n ≤ b ∧ w = nI n := by
  subst hx; subst hy
  by_cases c : w < nI a
  · exact Or.inl c
  · by_cases d : nI b < w
    · exact Or.inr (Or.inl ⟨c, d⟩)
    · rw [lt_toInt, nI_toInt (by omega)] at c d
      obtain ⟨n, n1, n2⟩ := rg_n (x := w) (lo := a) (hi := b) ⟨by omega, by omega⟩ (by omega) (b := b) (by omega)
      rw [n2, nI_toInt (by omega)] at c
      exact Or.inr (Or.inr ⟨n, by omega, n1, n2⟩)
theorem pr_wrong {Γ : ex_G} {x : Nat} (u v : Int32) (w : Int32) : Pair Γ x m_SD_wrong m_M_wrong [.int u, .int v, .int w] := by
  intro σ T I h
  obtain ⟨hX, hT, hw⟩ := h.c
  have hIw := h.2.2.2.2.1
  by_cases hg : ∃ i j, gd T u v i j
  · obtain ⟨i, j, hg⟩ := hg
    have hwS := hw.2.2.2.1 i hg.2.1
    have hwP := hw.2.2.2.2 j hg.2.2.2.1
    have hgo := hg.2.2.2.2
    have hn16 := hwS.1
    have h6 := hwP.1
    rcases int_cases (w := w) (x := 0) (y := 2) (a := 0) (b := 2) rfl rfl (by omega) (by omega) with hb | ⟨hc, hb⟩ | ⟨n, -, hn, rfl⟩
    · skip
      refine ⟨_, T, I, CallC.pure h (wrong_lo_some hX hT hw hg w hb), fun τ hτ => ?_⟩
      obtain ⟨g, A, hM, hmT⟩ := hτ.m
      exact CallM.pure hτ (m_wrong_bad_some hM hmT hw hg w (Or.inl hb))
    · skip
      refine ⟨_, T, I, CallC.pure h (wrong_hi_some hX hT hw hg w hc hb), fun τ hτ => ?_⟩
      obtain ⟨g, A, hM, hmT⟩ := hτ.m
      exact CallM.pure hτ (m_wrong_bad_some hM hmT hw hg w (Or.inr hb))
    · obtain ⟨fnd, hfo⟩ : cF σ x := h.1.2.2.2.2.2.2.2.2.2.1
      refine ⟨_, T, I, CallC.X h (wrong_some hX hT hw hg hfo hn) (by omega) (fun τ f r => h.1.upcF f ⟨_, r⟩), fun τ hτ => ?_⟩
      obtain ⟨g, A, hs, rd, al, bs, bm, bz, tr, rw, op, lo, me, pb, pw, st, en, hM, hmT, -, b0, b1, b2, b3, b4, b5, b6, b7, b8, b9, b10, b11, b12, b13, b14, -, -⟩ := id hτ.2.1
      have hr := m_wrong_some (Γ := Γ) hM hmT hw hg hn
      rw [wrong_eq (fnd := fnd) hwS hgo hn] at hr
      refine CallM.X hτ hr ⟨by omega, by omega⟩ (fun υ f r => ?_)
      exact InvM.chg hτ.2.1 (fun q h1 h2 => by
              by_cases e0 : q = x + 117
              · subst e0; exact Or.inr (Or.inl ⟨rfl, _, r⟩)
              exact Or.inl (f.2 q (by omega)))
  · skip
    refine ⟨_, T, I, CallC.pure h (wrong_none hX hT hw hg w), fun τ hτ => ?_⟩
    obtain ⟨g, A, hM, hmT⟩ := hτ.m
    exact CallM.pure hτ (m_wrong_none hM hmT hw hg w)
theorem pr_move {Γ : ex_G} {x : Nat} (u v : Int32) (w : Int32) : Pair Γ x m_SD_move m_M_move [.int u, .int v, .int w] := by
  intro σ T I h
  obtain ⟨hX, hT, hw⟩ := h.c
  have hIw := h.2.2.2.2.1
  by_cases hg : ∃ i j, gd T u v i j
  · obtain ⟨i, j, hg⟩ := hg
    have hwS := hw.2.2.2.1 i hg.2.1
    have hwP := hw.2.2.2.2 j hg.2.2.2.1
    have hgo := hg.2.2.2.2
    have hn16 := hwS.1
    have h6 := hwP.1
    rcases int_cases (w := w) (x := 0) (y := 2) (a := 0) (b := 2) rfl rfl (by omega) (by omega) with hb | ⟨hc, hb⟩ | ⟨n, -, hn, rfl⟩
    · skip
      refine ⟨_, T, I, CallC.pure h (move_lo_some hX hT hw hg w hb), fun τ hτ => ?_⟩
      obtain ⟨g, A, hM, hmT⟩ := hτ.m
      exact CallM.pure hτ (m_move_bad_some hM hmT hw hg w (Or.inl hb))
    · skip
      refine ⟨_, T, I, CallC.pure h (move_hi_some hX hT hw hg w hc hb), fun τ hτ => ?_⟩
      obtain ⟨g, A, hM, hmT⟩ := hτ.m
      exact CallM.pure hτ (m_move_bad_some hM hmT hw hg w (Or.inr hb))
    · obtain ⟨fnd, hfo⟩ : cF σ x := h.1.2.2.2.2.2.2.2.2.2.1
      refine ⟨_, T, I, CallC.X h (move_some hX hT hw hg hfo hn) (by omega) (fun τ f r => h.1.upcF f ⟨_, r⟩), fun τ hτ => ?_⟩
      obtain ⟨g, A, hs, rd, al, bs, bm, bz, tr, rw, op, lo, me, pb, pw, st, en, hM, hmT, -, b0, b1, b2, b3, b4, b5, b6, b7, b8, b9, b10, b11, b12, b13, b14, -, -⟩ := id hτ.2.1
      have hr := m_move_some (Γ := Γ) hM hmT hw hg hn
      rw [move_eq (fnd := fnd) hwS h6 hgo hn] at hr
      refine CallM.X hτ hr ⟨by omega, by omega⟩ (fun υ f r => ?_)
      exact InvM.chg hτ.2.1 (fun q h1 h2 => by
              by_cases e0 : q = x + 117
              · subst e0; exact Or.inr (Or.inl ⟨rfl, _, r⟩)
              exact Or.inl (f.2 q (by omega)))
  · skip
    refine ⟨_, T, I, CallC.pure h (move_none hX hT hw hg w), fun τ hτ => ?_⟩
    obtain ⟨g, A, hM, hmT⟩ := hτ.m
    exact CallM.pure hτ (m_move_none hM hmT hw hg w)
theorem pr_merge {Γ : ex_G} {x : Nat} (u v : Int32) (w : Int32) : Pair Γ x m_SD_merge m_M_merge [.int u, .int v, .int w] := by
  intro σ T I h
  obtain ⟨hX, hT, hw⟩ := h.c
  have hIw := h.2.2.2.2.1
  by_cases hg : ∃ i j, gd T u v i j
  · obtain ⟨i, j, hg⟩ := hg
    have hwS := hw.2.2.2.1 i hg.2.1
    have hwP := hw.2.2.2.2 j hg.2.2.2.1
    have hgo := hg.2.2.2.2
    have hn16 := hwS.1
    have h6 := hwP.1
    rcases int_cases (w := w) (x := 0) (y := 2) (a := 0) (b := 2) rfl rfl (by omega) (by omega) with hb | ⟨hc, hb⟩ | ⟨n, -, hn, rfl⟩
    · skip
      refine ⟨_, T, I, CallC.pure h (merge_lo_some hX hT hw hg w hb), fun τ hτ => ?_⟩
      obtain ⟨g, A, hM, hmT⟩ := hτ.m
      exact CallM.pure hτ (m_merge_bad_some hM hmT hw hg w (Or.inl hb))
    · skip
      refine ⟨_, T, I, CallC.pure h (merge_hi_some hX hT hw hg w hc hb), fun τ hτ => ?_⟩
      obtain ⟨g, A, hM, hmT⟩ := hτ.m
      exact CallM.pure hτ (m_merge_bad_some hM hmT hw hg w (Or.inr hb))
    · obtain ⟨fnd, hfo⟩ : cF σ x := h.1.2.2.2.2.2.2.2.2.2.1
      refine ⟨_, T, I, CallC.X h (merge_some hX hT hw hg hfo hn) (by omega) (fun τ f r => h.1.upcF f ⟨_, r⟩), fun τ hτ => ?_⟩
      obtain ⟨g, A, hs, rd, al, bs, bm, bz, tr, rw, op, lo, me, pb, pw, st, en, hM, hmT, -, b0, b1, b2, b3, b4, b5, b6, b7, b8, b9, b10, b11, b12, b13, b14, -, -⟩ := id hτ.2.1
      have hr := m_merge_some (Γ := Γ) hM hmT hw hg hn
      rw [merge_eq (fnd := fnd) hwS h6 hgo hn] at hr
      exact CallM.pure hτ hr
  · skip
    refine ⟨_, T, I, CallC.pure h (merge_none hX hT hw hg w), fun τ hτ => ?_⟩
    obtain ⟨g, A, hM, hmT⟩ := hτ.m
    exact CallM.pure hτ (m_merge_none hM hmT hw hg w)
theorem pr_ladder {Γ : ex_G} {x : Nat} (u v : Int32) (n : Int32) : Pair Γ x m_SD_ladder m_M_ladder [.int u, .int v, .int n] := by
  intro σ T I h
  obtain ⟨hX, hT, hw⟩ := h.c
  have hIw := h.2.2.2.2.1
  by_cases hg : ∃ i j, gd T u v i j
  · obtain ⟨i, j, hg⟩ := hg
    have hwS := hw.2.2.2.1 i hg.2.1
    have hwP := hw.2.2.2.2 j hg.2.2.2.1
    have hgo := hg.2.2.2.2
    have hn16 := hwS.1
    have h6 := hwP.1
    rcases int_cases (w := n) (x := 1) (y := 12) (a := 1) (b := 12) rfl rfl (by omega) (by omega) with hb | ⟨hc, hb⟩ | ⟨n, hn1, hn2, rfl⟩
    · skip
      refine ⟨_, T, I, CallC.pure h (ladder_lo_some hX hT hw hg n hb), fun τ hτ => ?_⟩
      obtain ⟨g, A, hM, hmT⟩ := hτ.m
      exact CallM.pure hτ (m_ladder_bad_some hM hmT hw hg n (Or.inl hb))
    · skip
      refine ⟨_, T, I, CallC.pure h (ladder_hi_some hX hT hw hg n hc hb), fun τ hτ => ?_⟩
      obtain ⟨g, A, hM, hmT⟩ := hτ.m
      exact CallM.pure hτ (m_ladder_bad_some hM hmT hw hg n (Or.inr hb))
    · obtain ⟨D, hsp⟩ := h.sp
      refine ⟨_, T, I, CallC.X h (ladder_some hX hT hw hg hsp hn1 hn2) (by omega) (fun τ f r => h.1.upcS f ⟨_, r⟩), fun τ hτ => ?_⟩
      obtain ⟨g, A, hs, rd, al, bs, bm, bz, tr, rw, op, lo, me, pb, pw, st, en, hM, hmT, -, b0, b1, b2, b3, b4, b5, b6, b7, b8, b9, b10, b11, b12, b13, b14, -, -⟩ := id hτ.2.1
      have hr := m_ladder_some (Γ := Γ) hM hmT hw b7 hg hn1 hn2
      rw [ladder_eq hn16] at hr
      refine CallM.X hτ hr ⟨by omega, by omega⟩ (fun υ f r => ?_)
      obtain ⟨⟨⟨A1, q1, q2, -⟩, -⟩, q3, q4⟩ := r
      exact hτ.2.1.tried hw hIw hM.2 q1 q2 q3 q4
  · skip
    refine ⟨_, T, I, CallC.pure h (ladder_none hX hT hw hg n), fun τ hτ => ?_⟩
    obtain ⟨g, A, hM, hmT⟩ := hτ.m
    exact CallM.pure hτ (m_ladder_none hM hmT hw hg n)
theorem pr_pass {Γ : ex_G} {x : Nat} (u v : Int32) : Pair Γ x m_SD_pass m_M_pass [.int u, .int v] := by
  intro σ T I h
  obtain ⟨hX, hT, hw⟩ := h.c
  have hIw := h.2.2.2.2.1
  by_cases hg : ∃ i j, gd T u v i j
  · obtain ⟨i, j, hg⟩ := hg
    have hwS := hw.2.2.2.1 i hg.2.1
    have hwP := hw.2.2.2.2 j hg.2.2.2.1
    have hgo := hg.2.2.2.2
    have hn16 := hwS.1
    have h6 := hwP.1
    refine ⟨_, T, I, CallC.pure h (pass_some hX hT hw hg), fun τ hτ => ?_⟩
    obtain ⟨g, A, hs, rd, al, bs, bm, bz, tr, rw, op, lo, me, pb, pw, st, en, hM, hmT, -, b0, b1, b2, b3, b4, b5, b6, b7, b8, b9, b10, b11, b12, b13, b14, -, -⟩ := id hτ.2.1
    have hr := m_pass_some (Γ := Γ) hM hmT hw b7 hg
    rw [pass_eq hwS] at hr
    refine CallM.X hτ hr ⟨by omega, by omega⟩ (fun υ f r => ?_)
    obtain ⟨⟨⟨A1, q1, q2, -⟩, -⟩, q3, q4⟩ := r
    exact hτ.2.1.tried hw hIw hM.2 q1 q2 q3 q4
  · skip
    refine ⟨_, T, I, CallC.pure h (pass_none hX hT hw hg), fun τ hτ => ?_⟩
    obtain ⟨g, A, hM, hmT⟩ := hτ.m
    exact CallM.pure hτ (m_pass_none hM hmT hw hg)
theorem pr_fewest {Γ : ex_G} {x : Nat} (u v : Int32) : Pair Γ x m_SD_fewest m_M_fewest [.int u, .int v] := by
  intro σ T I h
  obtain ⟨hX, hT, hw⟩ := h.c
  have hIw := h.2.2.2.2.1
  by_cases hg : ∃ i j, gd T u v i j
  · obtain ⟨i, j, hg⟩ := hg
    have hwS := hw.2.2.2.1 i hg.2.1
    have hwP := hw.2.2.2.2 j hg.2.2.2.1
    have hgo := hg.2.2.2.2
    have hn16 := hwS.1
    have h6 := hwP.1
    obtain ⟨wh, hwh⟩ : cW σ x := h.1.2.2.2.2.2.2.2.2.2.2
    refine ⟨_, T, I, CallC.X h (fewest_some hX hT hw hg hwh) (by omega) (fun τ f r => h.1.upcW f ⟨_, r⟩), fun τ hτ => ?_⟩
    obtain ⟨g, A, hs, rd, al, bs, bm, bz, tr, rw, op, lo, me, pb, pw, st, en, hM, hmT, -, b0, b1, b2, b3, b4, b5, b6, b7, b8, b9, b10, b11, b12, b13, b14, -, -⟩ := id hτ.2.1
    have hr := m_fewest_some (Γ := Γ) hM hmT hw b8 hg
    rw [fewest_eq (wh := wh) h6] at hr
    refine CallM.X hτ hr ⟨by omega, by omega⟩ (fun υ f r => ?_)
    obtain ⟨q1, q2⟩ := r
    exact InvM.chg hτ.2.1 (fun q h1 h2 => by
            by_cases e0 : q = x + 117 + 10
            · subst e0; exact Or.inr (Or.inr (Or.inr (Or.inr (Or.inr (Or.inr (Or.inr (Or.inr (Or.inr (Or.inl ⟨rfl, _, q1⟩)))))))))
            exact Or.inl (q2 q e0))
  · skip
    refine ⟨_, T, I, CallC.pure h (fewest_none hX hT hw hg), fun τ hτ => ?_⟩
    obtain ⟨g, A, hM, hmT⟩ := hτ.m
    exact CallM.pure hτ (m_fewest_none hM hmT hw hg)
theorem pr_open {Γ : ex_G} {x : Nat} (u v : Int32) (k : Int32) : Pair Γ x m_SD_open m_M_open [.int u, .int v, .int k] := by
  intro σ T I h
  obtain ⟨hX, hT, hw⟩ := h.c
  have hIw := h.2.2.2.2.1
  by_cases hg : ∃ i j, gd T u v i j
  · obtain ⟨i, j, hg⟩ := hg
    have hwS := hw.2.2.2.1 i hg.2.1
    have hwP := hw.2.2.2.2 j hg.2.2.2.1
    have hgo := hg.2.2.2.2
    have hn16 := hwS.1
    have h6 := hwP.1
    rcases int_cases (w := k) (x := 0) (y := 11) (a := 0) (b := 11) rfl rfl (by omega) (by omega) with hb | ⟨hc, hb⟩ | ⟨n, -, hn, rfl⟩
    · skip
      refine ⟨_, T, I, CallC.pure h (open_lo_some hX hT hw hg k hb), fun τ hτ => ?_⟩
      obtain ⟨g, A, hM, hmT⟩ := hτ.m
      exact CallM.pure hτ (m_open_bad_some hM hmT hw hg k (Or.inl hb))
    · skip
      refine ⟨_, T, I, CallC.pure h (open_hi_some hX hT hw hg k hc hb), fun τ hτ => ?_⟩
      obtain ⟨g, A, hM, hmT⟩ := hτ.m
      exact CallM.pure hτ (m_open_bad_some hM hmT hw hg k (Or.inr hb))
    · skip
      refine ⟨_, T, I, CallC.pure h (open_some hX hT hw hg _), fun τ hτ => ?_⟩
      obtain ⟨g, A, hM, hmT⟩ := hτ.m
      have hr := m_open_some (Γ := Γ) hM hmT hw hg (st := nI n) (rg_nI (by omega) (by omega) (by omega))
      rw [open_eq hwS hgo hwP.2 (nI_pos (by omega)) (nI_nlt (a := 11) (b := n) (by omega) (by omega))] at hr
      exact CallM.pure hτ hr
  · skip
    refine ⟨_, T, I, CallC.pure h (open_none hX hT hw hg k), fun τ hτ => ?_⟩
    obtain ⟨g, A, hM, hmT⟩ := hτ.m
    exact CallM.pure hτ (m_open_none hM hmT hw hg k)
end
