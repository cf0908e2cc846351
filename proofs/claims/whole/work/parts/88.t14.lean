/-! Both answer alike: next. -/
noncomputable section
theorem pr_next {Γ : ex_G} {x : Nat} (u v : Int32) (w : Int32) : Pair Γ x m_SD_next m_M_next [.int u, .int v, .int w] := by
  intro σ T I h
  obtain ⟨hX, hT, hw⟩ := h.c
  have hIw := h.2.2.2.2.1
  have hcn := hw.2.1
  by_cases hg : ∃ i j, gd T u v i j
  · obtain ⟨i, j, hg⟩ := hg
    have hwS := hw.2.2.2.1 i hg.2.1
    have hwP := hw.2.2.2.2 j hg.2.2.2.1
    have hgo := hg.2.2.2.2
    have hn16 := hwS.1
    have h6 := hwP.1
    rcases plc_cases w hcn with hp | ⟨n, hp⟩
    · skip
      refine ⟨_, T, I, CallC.pure h (next_np_some hX hT hw hg hp), fun τ hτ => ?_⟩
      obtain ⟨g, A, hM, hmT⟩ := hτ.m
      exact CallM.pure hτ (m_next_np hM hmT hw hg hp)
    · obtain ⟨D, hsp⟩ := h.sp
      refine ⟨nI n, K_putS T n (S_nx (tS T i) (tP T j)), I, ⟨0, 0, by omega, by omega, Ret.imp (next_some hX hT hw hg hsp hp) (fun r τ q => ?_)⟩, fun τ hτ => ?_⟩
      · obtain ⟨q1, υ, f1, s1, f2, s2⟩ := q
        obtain ⟨hc, hm, h3, h4, h5, h6'⟩ := h
        exact ⟨q1, (hc.upcS f1 ⟨_, s1⟩).upT f2 s2, (hm.cls f1 (by omega)).cls f2 (by omega), h3, h4, h5, by rw [f2.1, f1.1]; exact h6'⟩
      · obtain ⟨g, A, hs, rd, al, bs, bm, bz, tr, rw, op, lo, me, pb, pw, st, en, hM, hmT, -, b0, b1, b2, b3, b4, b5, b6, b7, b8, b9, b10, b11, b12, b13, b14, -, -⟩ := id hτ.2.1
        refine Ret.imp (m_next_some hM hmT hw b7 hg hp) (fun r υ q => ?_)
        obtain ⟨q1, f1, ⟨A2, a1, a2, a3⟩, hw', ⟨f9, r9⟩, kp⟩ := q
        obtain ⟨hc, hM0, h3, h4, h5, h6'⟩ := hτ
        exact ⟨q1, hc.ref (f1.mono (by omega) (by omega)), hM0.setA h5 hM.2 a1 a2 a3 r9 kp, hw', fun i hi => h4 i hi, h5, by rw [f1.1]; exact h6'⟩
  · skip
    refine ⟨_, T, I, CallC.pure h (next_none hX hT hw hg w), fun τ hτ => ?_⟩
    obtain ⟨g, A, hM, hmT⟩ := hτ.m
    exact CallM.pure hτ (m_next_none hM hmT hw hg w)
end
