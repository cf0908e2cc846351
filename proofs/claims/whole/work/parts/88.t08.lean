/-! Both answer alike: more methods that write scratch. -/
noncomputable section
section
variable {Γ : ex_G} {σ : ex_S} {x q a p y : Nat} {S : Sch} {T : Tol} {P : Pln} {g A : Nat → Int32}
theorem m_shift_none (hM : isM σ y g A) (hT : mT A 0 T) (hw : wT T) {u v : Int32} (hg : ¬ ∃ i j, gd T u v i j) (k : Int32) : RetV Γ m_M_shift [.ref y, .int u, .int v, .int k] σ (.int (-1)) := by
  obtain ⟨m0, m1⟩ := id hM
  unfold RetV
  generalize hQ : (fun (r : Option Value) (σ' : ex_S) => r = some ((.int (-1)) : Value) ∧ σ' = σ) = Q
  refine Ret.start pm_260 rfl ?_
  refine Ev.aload_n rfl rfl ?_
  refine Ev.iload_n rfl rfl ?_
  refine Ev.iload_n rfl rfl ?_
  refine Ev.iload_n rfl rfl ?_
  refine Ev.cV3 rfl rfl (by assumption) rfl rfl (by decide) ⟨(Nat.le_refl _), (Nat.le_refl _)⟩ (m_isGoing_no hM hT hw hg k) ?_
  refine Ev.if_ne (tgt := 12) rfl (by decide) (fun c7 => absurd rfl c7) (fun c7 => ?_)
  refine Ev.iconst (v := (-1)) rfl (by decide) ?_
  refine Ev.iret (ty := .int) rfl rfl rfl (Nat.le_refl _) (Nat.le_refl _) ?_
  rw [← hQ]
  exact ⟨rfl, rfl⟩
end
theorem pr_let {Γ : ex_G} {x : Nat} (u v : Int32) (l : Int32) : Pair Γ x m_SD_let m_M_let [.int u, .int v, .int l] := by
  intro σ T I h
  obtain ⟨hX, hT, hw⟩ := h.c
  have hIw := h.2.2.2.2.1
  by_cases hg : ∃ i j, gd T u v i j
  · obtain ⟨i, j, hg⟩ := hg
    have hwS := hw.2.2.2.1 i hg.2.1
    have hwP := hw.2.2.2.2 j hg.2.2.2.1
    have hgo := hg.2.2.2.2
    have hn16 := hwS.1
    have h6 := hwP.1
    rcases ix_cases l (n := (tS T i).1) (by omega) with hk | hk | ⟨l0, hkk, rfl⟩
    · skip
      refine ⟨_, T, I, CallC.pure h (let_nol_some hX hT hw hg (Or.inl hk)), fun τ hτ => ?_⟩
      obtain ⟨g, A, hM, hmT⟩ := hτ.m
      exact CallM.pure hτ (m_let_nol_some hM hmT hw hg (Or.inl hk))
    · skip
      refine ⟨_, T, I, CallC.pure h (let_nol_some hX hT hw hg (Or.inr hk)), fun τ hτ => ?_⟩
      obtain ⟨g, A, hM, hmT⟩ := hτ.m
      exact CallM.pure hτ (m_let_nol_some hM hmT hw hg (Or.inr hk))
    · skip
      refine ⟨_, T, I, CallC.pure h (let_some hX hT hw hg hkk), fun τ hτ => ?_⟩
      obtain ⟨g, A, hM, hmT⟩ := hτ.m
      have hr := m_let_some (Γ := Γ) hM hmT hw hg hkk
      rw [let_eq hwS h6 hgo hkk] at hr
      exact CallM.pure hτ hr
  · skip
    refine ⟨_, T, I, CallC.pure h (let_none hX hT hw hg l), fun τ hτ => ?_⟩
    obtain ⟨g, A, hM, hmT⟩ := hτ.m
    exact CallM.pure hτ (m_let_none hM hmT hw hg l)
theorem pr_june {Γ : ex_G} {x : Nat} (u v : Int32) (k l n : Int32) : Pair Γ x m_SD_june m_M_june [.int u, .int v, .int k, .int l, .int n] := by
  intro σ T I h
  obtain ⟨hX, hT, hw⟩ := h.c
  have hIw := h.2.2.2.2.1
  by_cases hg : ∃ i j, gd T u v i j
  · obtain ⟨i, j, hg⟩ := hg
    have hwS := hw.2.2.2.1 i hg.2.1
    have hwP := hw.2.2.2.2 j hg.2.2.2.1
    have hgo := hg.2.2.2.2
    have hn16 := hwS.1
    have h6 := hwP.1
    rcases ix_cases k (n := (tP T j).1) (by omega) with hk | hk | ⟨k0, hkk, rfl⟩
    · skip
      refine ⟨_, T, I, CallC.pure h (june_nok_some hX hT hw hg k l n (Or.inl hk)), fun τ hτ => ?_⟩
      obtain ⟨g, A, hM, hmT⟩ := hτ.m
      exact CallM.pure hτ (m_june_nok hM hmT hw hg k l n (Or.inl hk))
    · skip
      refine ⟨_, T, I, CallC.pure h (june_nok_some hX hT hw hg k l n (Or.inr hk)), fun τ hτ => ?_⟩
      obtain ⟨g, A, hM, hmT⟩ := hτ.m
      exact CallM.pure hτ (m_june_nok hM hmT hw hg k l n (Or.inr hk))
    · skip
      rcases ix_cases l (n := (tS T i).1) (by omega) with hl | hl | ⟨l0, hl, rfl⟩
      · skip
        refine ⟨_, T, I, CallC.pure h (june_nol_some hX hT hw hg hkk (l := l) (n := n) (Or.inl hl)), fun τ hτ => ?_⟩
        obtain ⟨g, A, hM, hmT⟩ := hτ.m
        exact CallM.pure hτ (m_june_nol_some hM hmT hw hg hkk (l := l) (n := n) (Or.inl hl))
      · skip
        refine ⟨_, T, I, CallC.pure h (june_nol_some hX hT hw hg hkk (l := l) (n := n) (Or.inr hl)), fun τ hτ => ?_⟩
        obtain ⟨g, A, hM, hmT⟩ := hτ.m
        exact CallM.pure hτ (m_june_nol_some hM hmT hw hg hkk (l := l) (n := n) (Or.inr hl))
      · skip
        rcases int_cases (w := n) (x := 0) (y := 12) (a := 0) (b := 12) rfl rfl (by omega) (by omega) with hb | ⟨hc, hb⟩ | ⟨n0, hn1, hn2, rfl⟩
        · skip
          refine ⟨_, T, I, CallC.pure h (june_lo_some hX hT hw hg hkk hl hb), fun τ hτ => ?_⟩
          obtain ⟨g, A, hM, hmT⟩ := hτ.m
          exact CallM.pure hτ (m_june_bad_some hM hmT hw hg hkk hl (Or.inl hb))
        · skip
          refine ⟨_, T, I, CallC.pure h (june_hi_some hX hT hw hg hkk hl hc hb), fun τ hτ => ?_⟩
          obtain ⟨g, A, hM, hmT⟩ := hτ.m
          exact CallM.pure hτ (m_june_bad_some hM hmT hw hg hkk hl (Or.inr hb))
        · skip
          refine ⟨_, T, I, CallC.pure h (june_some hX hT hw hg hkk hl hn2), fun τ hτ => ?_⟩
          obtain ⟨g, A, hs, rd, al, bs, bm, bz, tr, rw, op, lo, me, pb, pw, st, en, hM, hmT, -, b0, b1, b2, b3, b4, b5, b6, b7, b8, b9, b10, b11, b12, b13, b14, -, -⟩ := id hτ.2.1
          have hr := m_june_some (Γ := Γ) hM hmT hw b7 hg hkk hl hn2
          rw [june_eq hwS hgo hkk hl] at hr
          refine CallM.X hτ hr ⟨by omega, by omega⟩ (fun υ f r => ?_)
          obtain ⟨⟨⟨A1, q1, q2, -⟩, -⟩, q3, q4⟩ := r
          exact hτ.2.1.tried hw hIw hM.2 q1 q2 q3 q4
  · skip
    refine ⟨_, T, I, CallC.pure h (june_none hX hT hw hg k l n), fun τ hτ => ?_⟩
    obtain ⟨g, A, hM, hmT⟩ := hτ.m
    exact CallM.pure hτ (m_june_none hM hmT hw hg k l n)
theorem pr_more {Γ : ex_G} {x : Nat} (u v : Int32) (k s : Int32) : Pair Γ x m_SD_more m_M_more [.int u, .int v, .int k, .int s] := by
  intro σ T I h
  obtain ⟨hX, hT, hw⟩ := h.c
  have hIw := h.2.2.2.2.1
  by_cases hg : ∃ i j, gd T u v i j
  · obtain ⟨i, j, hg⟩ := hg
    have hwS := hw.2.2.2.1 i hg.2.1
    have hwP := hw.2.2.2.2 j hg.2.2.2.1
    have hgo := hg.2.2.2.2
    have hn16 := hwS.1
    have h6 := hwP.1
    rcases ix_cases k (n := (tP T j).1) (by omega) with hk | hk | ⟨k0, hkk, rfl⟩
    · skip
      refine ⟨_, T, I, CallC.pure h (more_nok_some hX hT hw hg k s (Or.inl hk)), fun τ hτ => ?_⟩
      obtain ⟨g, A, hM, hmT⟩ := hτ.m
      exact CallM.pure hτ (m_more_nok hM hmT hw hg k s (Or.inl hk))
    · skip
      refine ⟨_, T, I, CallC.pure h (more_nok_some hX hT hw hg k s (Or.inr hk)), fun τ hτ => ?_⟩
      obtain ⟨g, A, hM, hmT⟩ := hτ.m
      exact CallM.pure hτ (m_more_nok hM hmT hw hg k s (Or.inr hk))
    · skip
      rcases int_cases (w := s) (x := 0) (y := 11) (a := 0) (b := 11) rfl rfl (by omega) (by omega) with hb | ⟨hc, hb⟩ | ⟨n0, hn1, hn2, rfl⟩
      · skip
        refine ⟨_, T, I, CallC.pure h (more_lo_some hX hT hw hg hkk hb), fun τ hτ => ?_⟩
        obtain ⟨g, A, hM, hmT⟩ := hτ.m
        exact CallM.pure hτ (m_more_bad_some hM hmT hw hg hkk (Or.inl hb))
      · skip
        refine ⟨_, T, I, CallC.pure h (more_hi_some hX hT hw hg hkk hc hb), fun τ hτ => ?_⟩
        obtain ⟨g, A, hM, hmT⟩ := hτ.m
        exact CallM.pure hτ (m_more_bad_some hM hmT hw hg hkk (Or.inr hb))
      · skip
        obtain ⟨D, hsp⟩ := h.sp
        have hst : rg (nI n0) 0 11 := rg_nI (by omega) (by omega) (by omega)
        refine ⟨_, T, I, CallC.X h (more_some hX hT hw hg hsp hkk hst) (by omega) (fun τ f r => h.1.upcS f ⟨_, r⟩), fun τ hτ => ?_⟩
        obtain ⟨g, A, hs, rd, al, bs, bm, bz, tr, rw, op, lo, me, pb, pw, st, en, hM, hmT, -, b0, b1, b2, b3, b4, b5, b6, b7, b8, b9, b10, b11, b12, b13, b14, -, -⟩ := id hτ.2.1
        have hr := m_more_some (Γ := Γ) hM hmT hw hg hkk hst
        rw [more_eq hwS hgo hkk hst] at hr
        exact CallM.pure hτ hr
  · skip
    refine ⟨_, T, I, CallC.pure h (more_none hX hT hw hg k s), fun τ hτ => ?_⟩
    obtain ⟨g, A, hM, hmT⟩ := hτ.m
    exact CallM.pure hτ (m_more_none hM hmT hw hg k s)
theorem pr_spread {Γ : ex_G} {x : Nat} (u v : Int32) (k : Int32) : Pair Γ x m_SD_spread m_M_spread [.int u, .int v, .int k] := by
  intro σ T I h
  obtain ⟨hX, hT, hw⟩ := h.c
  have hIw := h.2.2.2.2.1
  by_cases hg : ∃ i j, gd T u v i j
  · obtain ⟨i, j, hg⟩ := hg
    have hwS := hw.2.2.2.1 i hg.2.1
    have hwP := hw.2.2.2.2 j hg.2.2.2.1
    have hgo := hg.2.2.2.2
    have hn16 := hwS.1
    have h6 := hwP.1
    rcases ix_cases k (n := (tP T j).1) (by omega) with hk | hk | ⟨k0, hkk, rfl⟩
    · skip
      refine ⟨_, T, I, CallC.pure h (spread_nok_some hX hT hw hg k (Or.inl hk)), fun τ hτ => ?_⟩
      obtain ⟨g, A, hM, hmT⟩ := hτ.m
      exact CallM.pure hτ (m_spread_nok hM hmT hw hg k (Or.inl hk))
    · skip
      refine ⟨_, T, I, CallC.pure h (spread_nok_some hX hT hw hg k (Or.inr hk)), fun τ hτ => ?_⟩
      obtain ⟨g, A, hM, hmT⟩ := hτ.m
      exact CallM.pure hτ (m_spread_nok hM hmT hw hg k (Or.inr hk))
    · skip
      refine ⟨_, T, I, CallC.pure h (spread_some hX hT hw hg hkk), fun τ hτ => ?_⟩
      obtain ⟨g, A, hM, hmT⟩ := hτ.m
      have hr := m_spread_some (Γ := Γ) hM hmT hw hg hkk
      rw [spread_eq hwS hgo hkk] at hr
      exact CallM.pure hτ hr
  · skip
    refine ⟨_, T, I, CallC.pure h (spread_none hX hT hw hg k), fun τ hτ => ?_⟩
    obtain ⟨g, A, hM, hmT⟩ := hτ.m
    exact CallM.pure hτ (m_spread_none hM hmT hw hg k)
theorem pr_shift {Γ : ex_G} {x : Nat} (u v : Int32) (k : Int32) : Pair Γ x m_SD_shift m_M_shift [.int u, .int v, .int k] := by
  intro σ T I h
  obtain ⟨hX, hT, hw⟩ := h.c
  have hIw := h.2.2.2.2.1
  by_cases hg : ∃ i j, gd T u v i j
  · obtain ⟨i, j, hg⟩ := hg
    have hwS := hw.2.2.2.1 i hg.2.1
    have hwP := hw.2.2.2.2 j hg.2.2.2.1
    have hgo := hg.2.2.2.2
    have hn16 := hwS.1
    have h6 := hwP.1
    rcases ix_cases k (n := (tP T j).1) (by omega) with hk | hk | ⟨k0, hkk, rfl⟩
    · skip
      refine ⟨_, T, I, CallC.pure h (shift_nok_some hX hT hw hg (Or.inl hk)), fun τ hτ => ?_⟩
      obtain ⟨g, A, hM, hmT⟩ := hτ.m
      exact CallM.pure hτ (m_shift_nok_some hM hmT hw hg (Or.inl hk))
    · skip
      refine ⟨_, T, I, CallC.pure h (shift_nok_some hX hT hw hg (Or.inr hk)), fun τ hτ => ?_⟩
      obtain ⟨g, A, hM, hmT⟩ := hτ.m
      exact CallM.pure hτ (m_shift_nok_some hM hmT hw hg (Or.inr hk))
    · skip
      obtain ⟨D, htr⟩ : cL σ x := h.1.2.2.2.2.2.1
      refine ⟨_, T, I, CallC.X h (shift_some hX hT hw hg htr hkk) (by omega) (fun τ f r => h.1.upcL f ⟨_, r⟩), fun τ hτ => ?_⟩
      obtain ⟨g, A, hs, rd, al, bs, bm, bz, tr, rw, op, lo, me, pb, pw, st, en, hM, hmT, -, b0, b1, b2, b3, b4, b5, b6, b7, b8, b9, b10, b11, b12, b13, b14, -, -⟩ := id hτ.2.1
      have hr := m_shift_some (Γ := Γ) hM hmT hw hg hkk
      rw [shift_eq] at hr
      refine CallM.X hτ hr ⟨by omega, by omega⟩ (fun υ f r => ?_)
      have hmp := hmT.p hg.2.2.2.1
      have e : (K_m_shift T i j k0).2 = A (970 + 40 * j + 1 + 6 * k0 + 3) := (hmp.2 k0 hkk 3 (by omega)).symm
      rw [e, upd_same] at r
      refine hτ.2.1.of (fun q h1 h2 => ?_)
      by_cases e1 : q = x + 117 + 1
      · subst e1; exact r.trans hM.2.symm
      · exact f.2 q (by omega)
  · skip
    refine ⟨_, T, I, CallC.pure h (shift_none hX hT hw hg k), fun τ hτ => ?_⟩
    obtain ⟨g, A, hM, hmT⟩ := hτ.m
    exact CallM.pure hτ (m_shift_none hM hmT hw hg k)
theorem pr_weeks {Γ : ex_G} {x : Nat} (u v : Int32) (sd w k : Int32) : Pair Γ x m_SD_weeks m_M_weeks [.int u, .int v, .int sd, .int w, .int k] := by
  intro σ T I h
  obtain ⟨hX, hT, hw⟩ := h.c
  have hIw := h.2.2.2.2.1
  by_cases hg : ∃ i j, gd T u v i j
  · obtain ⟨i, j, hg⟩ := hg
    have hwS := hw.2.2.2.1 i hg.2.1
    have hwP := hw.2.2.2.2 j hg.2.2.2.1
    have hgo := hg.2.2.2.2
    have hn16 := hwS.1
    have h6 := hwP.1
    have hwl := wk_cl hwS
    rcases int_cases (w := w) (x := 0) (y := ((tS T i).2.2 9 7)) (a := 0) (b := ((tS T i).2.2 9 7).toNatClampNeg) rfl (wk_cl hwS).1 (by omega) (by omega) with hb | ⟨hc, hb⟩ | ⟨w0, hn1, hn2, rfl⟩
    · skip
      refine ⟨_, T, I, CallC.pure h (weeks_lo_some hX hT hw hg hb), fun τ hτ => ?_⟩
      obtain ⟨g, A, hM, hmT⟩ := hτ.m
      exact CallM.pure hτ (m_weeks_bad_some hM hmT hw hg (Or.inl hb))
    · skip
      refine ⟨_, T, I, CallC.pure h (weeks_hi_some hX hT hw hg hc hb), fun τ hτ => ?_⟩
      obtain ⟨g, A, hM, hmT⟩ := hτ.m
      exact CallM.pure hτ (m_weeks_bad_some hM hmT hw hg (Or.inr hb))
    · skip
      obtain ⟨xv, si, ef, htm, hsi, hen⟩ : cE σ x := h.1.2.2.2.2.2.2.2.2.1
      by_cases hk1 : k = -1
      · subst hk1
        refine ⟨_, T, I, CallC.X h (weeksA_some hX hT hw hg htm hsi hen sd hn2) (by omega) (fun τ f r => h.1.upcE f ⟨_, _, _, r.1, r.2.1, r.2.2⟩), fun τ hτ => ?_⟩
        obtain ⟨g, A, hs, rd, al, bs, bm, bz, tr, rw, op, lo, me, pb, pw, st, en, hM, hmT, -, b0, b1, b2, b3, b4, b5, b6, b7, b8, b9, b10, b11, b12, b13, b14, -, -⟩ := id hτ.2.1
        have hr := m_weeksA_some (Γ := Γ) hM hmT hw b13 b14 hg sd hn2
        rw [weeksA_eq (xv := xv) (si := si) (en := ef) hn16 hgo (by omega)] at hr
        refine CallM.X hτ hr ⟨by omega, by omega⟩ (fun υ f r => ?_)
        obtain ⟨q1, q2, q3, q4⟩ := r
        exact InvM.chg hτ.2.1 (fun q h1 h2 => by
                by_cases e0 : q = x + 117
                · subst e0; exact Or.inr (Or.inl ⟨rfl, _, q1⟩)
                by_cases e1 : q = x + 117 + 15
                · subst e1; exact Or.inr (Or.inr (Or.inr (Or.inr (Or.inr (Or.inr (Or.inr (Or.inr (Or.inr (Or.inr (Or.inr (Or.inr (Or.inr (Or.inl ⟨rfl, _, q2⟩)))))))))))))
                by_cases e2 : q = x + 117 + 16
                · subst e2; exact Or.inr (Or.inr (Or.inr (Or.inr (Or.inr (Or.inr (Or.inr (Or.inr (Or.inr (Or.inr (Or.inr (Or.inr (Or.inr (Or.inr (⟨rfl, _, q3⟩))))))))))))))
                exact Or.inl (q4 q e0 e1 e2))
      · skip
        rcases ix_cases k (n := (tP T j).1) (by omega) with hk | hk | ⟨k0, hkk, rfl⟩
        · skip
          refine ⟨_, T, I, CallC.pure h (weeks_nok_some hX hT hw hg hn2 hk1 (Or.inl hk)), fun τ hτ => ?_⟩
          obtain ⟨g, A, hM, hmT⟩ := hτ.m
          exact CallM.pure hτ (m_weeks_nok_some hM hmT hw hg hn2 hk1 (Or.inl hk))
        · skip
          refine ⟨_, T, I, CallC.pure h (weeks_nok_some hX hT hw hg hn2 hk1 (Or.inr hk)), fun τ hτ => ?_⟩
          obtain ⟨g, A, hM, hmT⟩ := hτ.m
          exact CallM.pure hτ (m_weeks_nok_some hM hmT hw hg hn2 hk1 (Or.inr hk))
        · skip
          refine ⟨_, T, I, CallC.X h (weeksK_some hX hT hw hg htm hsi hen sd hn2 hkk) (by omega) (fun τ f r => h.1.upcE f ⟨_, _, _, r.1, r.2.1, r.2.2⟩), fun τ hτ => ?_⟩
          obtain ⟨g, A, hs, rd, al, bs, bm, bz, tr, rw, op, lo, me, pb, pw, st, en, hM, hmT, -, b0, b1, b2, b3, b4, b5, b6, b7, b8, b9, b10, b11, b12, b13, b14, -, -⟩ := id hτ.2.1
          have hr := m_weeksK_some (Γ := Γ) hM hmT hw b13 b14 hg sd hn2 hkk
          rw [weeksK_eq (xv := xv) (si := si) (en := ef) hn16 h6 hgo (by omega) hkk] at hr
          refine CallM.X hτ hr ⟨by omega, by omega⟩ (fun υ f r => ?_)
          obtain ⟨q1, q2, q3, q4⟩ := r
          exact InvM.chg hτ.2.1 (fun q h1 h2 => by
                  by_cases e0 : q = x + 117
                  · subst e0; exact Or.inr (Or.inl ⟨rfl, _, q1⟩)
                  by_cases e1 : q = x + 117 + 15
                  · subst e1; exact Or.inr (Or.inr (Or.inr (Or.inr (Or.inr (Or.inr (Or.inr (Or.inr (Or.inr (Or.inr (Or.inr (Or.inr (Or.inr (Or.inl ⟨rfl, _, q2⟩)))))))))))))
                  by_cases e2 : q = x + 117 + 16
                  · subst e2; exact Or.inr (Or.inr (Or.inr (Or.inr (Or.inr (Or.inr (Or.inr (Or.inr (Or.inr (Or.inr (Or.inr (Or.inr (Or.inr (Or.inr (⟨rfl, _, q3⟩))))))))))))))
                  exact Or.inl (q4 q e0 e1 e2))
  · skip
    refine ⟨_, T, I, CallC.pure h (weeks_none hX hT hw hg sd w k), fun τ hτ => ?_⟩
    obtain ⟨g, A, hM, hmT⟩ := hτ.m
    exact CallM.pure hτ (m_weeks_none hM hmT hw hg sd w k)
theorem pr_ended {Γ : ex_G} {x : Nat} (u v : Int32) (sd k : Int32) : Pair Γ x m_SD_ended m_M_ended [.int u, .int v, .int sd, .int k] := by
  intro σ T I h
  obtain ⟨hX, hT, hw⟩ := h.c
  have hIw := h.2.2.2.2.1
  by_cases hg : ∃ i j, gd T u v i j
  · obtain ⟨i, j, hg⟩ := hg
    have hwS := hw.2.2.2.1 i hg.2.1
    have hwP := hw.2.2.2.2 j hg.2.2.2.1
    have hgo := hg.2.2.2.2
    have hn16 := hwS.1
    have h6 := hwP.1
    have hwl := wk_cl hwS
    rcases ix_cases k (n := (tP T j).1) (by omega) with hk | hk | ⟨k0, hkk, rfl⟩
    · skip
      refine ⟨_, T, I, CallC.pure h (ended_nok_some hX hT hw hg sd k (Or.inl hk)), fun τ hτ => ?_⟩
      obtain ⟨g, A, hM, hmT⟩ := hτ.m
      exact CallM.pure hτ (m_ended_nok hM hmT hw hg sd k (Or.inl hk))
    · skip
      refine ⟨_, T, I, CallC.pure h (ended_nok_some hX hT hw hg sd k (Or.inr hk)), fun τ hτ => ?_⟩
      obtain ⟨g, A, hM, hmT⟩ := hτ.m
      exact CallM.pure hτ (m_ended_nok hM hmT hw hg sd k (Or.inr hk))
    · skip
      obtain ⟨xv, si, ef, htm, hsi, hen⟩ : cE σ x := h.1.2.2.2.2.2.2.2.2.1
      refine ⟨_, T, I, CallC.X h (ended_some hX hT hw hg htm hsi hen sd hkk) (by omega) (fun τ f r => h.1.upcE f ⟨_, _, _, r.1, r.2.1, r.2.2⟩), fun τ hτ => ?_⟩
      obtain ⟨g, A, hs, rd, al, bs, bm, bz, tr, rw, op, lo, me, pb, pw, st, en, hM, hmT, -, b0, b1, b2, b3, b4, b5, b6, b7, b8, b9, b10, b11, b12, b13, b14, -, -⟩ := id hτ.2.1
      have hr := m_ended_some (Γ := Γ) hM hmT hw b13 b14 hg sd hkk
      rw [ended_eq (xv := xv) (si := si) (en := ef) hn16 hgo (by omega) hkk] at hr
      refine CallM.X hτ hr ⟨by omega, by omega⟩ (fun υ f r => ?_)
      obtain ⟨q1, q2, q3, q4⟩ := r
      exact InvM.chg hτ.2.1 (fun q h1 h2 => by
              by_cases e0 : q = x + 117
              · subst e0; exact Or.inr (Or.inl ⟨rfl, _, q1⟩)
              by_cases e1 : q = x + 117 + 15
              · subst e1; exact Or.inr (Or.inr (Or.inr (Or.inr (Or.inr (Or.inr (Or.inr (Or.inr (Or.inr (Or.inr (Or.inr (Or.inr (Or.inr (Or.inl ⟨rfl, _, q2⟩)))))))))))))
              by_cases e2 : q = x + 117 + 16
              · subst e2; exact Or.inr (Or.inr (Or.inr (Or.inr (Or.inr (Or.inr (Or.inr (Or.inr (Or.inr (Or.inr (Or.inr (Or.inr (Or.inr (Or.inr (⟨rfl, _, q3⟩))))))))))))))
              exact Or.inl (q4 q e0 e1 e2))
  · skip
    refine ⟨_, T, I, CallC.pure h (ended_none hX hT hw hg sd k), fun τ hτ => ?_⟩
    obtain ⟨g, A, hM, hmT⟩ := hτ.m
    exact CallM.pure hτ (m_ended_none hM hmT hw hg sd k)
theorem pr_holds {Γ : ex_G} {x : Nat} (u v : Int32) (sd w k : Int32) : Pair Γ x m_SD_holds m_M_holds [.int u, .int v, .int sd, .int w, .int k] := by
  intro σ T I h
  obtain ⟨hX, hT, hw⟩ := h.c
  have hIw := h.2.2.2.2.1
  by_cases hg : ∃ i j, gd T u v i j
  · obtain ⟨i, j, hg⟩ := hg
    have hwS := hw.2.2.2.1 i hg.2.1
    have hwP := hw.2.2.2.2 j hg.2.2.2.1
    have hgo := hg.2.2.2.2
    have hn16 := hwS.1
    have h6 := hwP.1
    have hwl := wk_cl hwS
    rcases ix_cases k (n := (tP T j).1) (by omega) with hk | hk | ⟨k0, hkk, rfl⟩
    · skip
      refine ⟨_, T, I, CallC.pure h (holds_nok_some hX hT hw hg sd w k (Or.inl hk)), fun τ hτ => ?_⟩
      obtain ⟨g, A, hM, hmT⟩ := hτ.m
      exact CallM.pure hτ (m_holds_nok hM hmT hw hg sd w k (Or.inl hk))
    · skip
      refine ⟨_, T, I, CallC.pure h (holds_nok_some hX hT hw hg sd w k (Or.inr hk)), fun τ hτ => ?_⟩
      obtain ⟨g, A, hM, hmT⟩ := hτ.m
      exact CallM.pure hτ (m_holds_nok hM hmT hw hg sd w k (Or.inr hk))
    · skip
      rcases int_cases (w := w) (x := 1) (y := 8) (a := 1) (b := 8) rfl rfl (by omega) (by omega) with hb | ⟨hc, hb⟩ | ⟨w0, hn1, hn2, rfl⟩
      · skip
        refine ⟨_, T, I, CallC.pure h (holds_lo_some hX hT hw hg hkk (sd := sd) hb), fun τ hτ => ?_⟩
        obtain ⟨g, A, hM, hmT⟩ := hτ.m
        exact CallM.pure hτ (m_holds_bad_some hM hmT hw hg hkk (sd := sd) (Or.inl hb))
      · skip
        refine ⟨_, T, I, CallC.pure h (holds_hi_some hX hT hw hg hkk (sd := sd) hc hb), fun τ hτ => ?_⟩
        obtain ⟨g, A, hM, hmT⟩ := hτ.m
        exact CallM.pure hτ (m_holds_bad_some hM hmT hw hg hkk (sd := sd) (Or.inr hb))
      · skip
        obtain ⟨xv, si, ef, htm, hsi, hen⟩ : cE σ x := h.1.2.2.2.2.2.2.2.2.1
        refine ⟨_, T, I, CallC.X h (holds_some hX hT hw hg htm hsi hen sd hn1 hn2 hkk) (by omega) (fun τ f r => h.1.upcE f ⟨_, _, _, r.1, r.2.1, r.2.2⟩), fun τ hτ => ?_⟩
        obtain ⟨g, A, hs, rd, al, bs, bm, bz, tr, rw, op, lo, me, pb, pw, st, en, hM, hmT, -, b0, b1, b2, b3, b4, b5, b6, b7, b8, b9, b10, b11, b12, b13, b14, -, -⟩ := id hτ.2.1
        have hr := m_holds_some (Γ := Γ) hM hmT hw b13 b14 hg sd hn1 hn2 hkk
        rw [holds_eq (xv := xv) (si := si) (en := ef) hn16 hgo (by omega) hkk] at hr
        refine CallM.X hτ hr ⟨by omega, by omega⟩ (fun υ f r => ?_)
        obtain ⟨q1, q2, q3, q4⟩ := r
        exact InvM.chg hτ.2.1 (fun q h1 h2 => by
                by_cases e0 : q = x + 117
                · subst e0; exact Or.inr (Or.inl ⟨rfl, _, q1⟩)
                by_cases e1 : q = x + 117 + 15
                · subst e1; exact Or.inr (Or.inr (Or.inr (Or.inr (Or.inr (Or.inr (Or.inr (Or.inr (Or.inr (Or.inr (Or.inr (Or.inr (Or.inr (Or.inl ⟨rfl, _, q2⟩)))))))))))))
                by_cases e2 : q = x + 117 + 16
                · subst e2; exact Or.inr (Or.inr (Or.inr (Or.inr (Or.inr (Or.inr (Or.inr (Or.inr (Or.inr (Or.inr (Or.inr (Or.inr (Or.inr (Or.inr (⟨rfl, _, q3⟩))))))))))))))
                exact Or.inl (q4 q e0 e1 e2))
  · skip
    refine ⟨_, T, I, CallC.pure h (holds_none hX hT hw hg sd w k), fun τ hτ => ?_⟩
    obtain ⟨g, A, hM, hmT⟩ := hτ.m
    exact CallM.pure hτ (m_holds_none hM hmT hw hg sd w k)
end
