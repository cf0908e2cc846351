/-! Both answer alike: again. -/
noncomputable section
theorem pr_again {Γ : ex_G} {x : Nat} (k : Int32) : Pair Γ x m_SD_again m_M_again [.int k] := by
  intro σ T I h
  obtain ⟨hX, hT, hw⟩ := h.c
  have hIw := h.2.2.2.2.1
  obtain ⟨im, bb, ⟨hI, hall, hdis⟩, -⟩ := h.1.2.2.1
  rcases ix_cases k (n := 3) (by omega) with hk | hk | ⟨k, hk, rfl⟩
  · skip
    refine ⟨_, T, I, CallC.pure h (again_bad hX (Or.inl hk)), fun τ hτ => ?_⟩
    obtain ⟨g, A, hM, hmT⟩ := hτ.m
    exact CallM.pure hτ (m_again_bad hM (Or.inl hk))
  · skip
    refine ⟨_, T, I, CallC.pure h (again_bad hX (Or.inr hk)), fun τ hτ => ?_⟩
    obtain ⟨g, A, hM, hmT⟩ := hτ.m
    exact CallM.pure hτ (m_again_bad hM (Or.inr hk))
  rcases hall k hk with ⟨e1, e2⟩ | ⟨a, U, e1, e2, e3, e4, e5⟩
  · refine ⟨_, T, I, CallC.pure h (again_nil hX hI hk e2), fun τ hτ => ?_⟩
    obtain ⟨g, A, hs, rd, al, bs, bm, bz, tr, rw, op, lo, me, pb, pw, st, en, hM, hmT, a4, b0, b1, b2, b3, b4, b5, b6, b7, b8, b9, b10, b11, b12, b13, b14, z1, z2⟩ := id hτ.2.1
    exact CallM.pure hτ (m_again_nil hM b0 hk ((z1 k hk).trans (if_pos e1)))
  · obtain ⟨hwU, hfU⟩ := hIw k U hk e1
    refine ⟨_, U, I, CallC.T h (again_some hX hT hI hk e2 e3 hfU (by omega)) ⟨by omega, by omega⟩ (fun τ _ r => r), fun τ hτ => ?_⟩
    obtain ⟨g, A, hs, rd, al, bs, bm, bz, tr, rw, op, lo, me, pb, pw, st, en, hM, hmT, a4, b0, b1, b2, b3, b4, b5, b6, b7, b8, b9, b10, b11, b12, b13, b14, z1, z2⟩ := id hτ.2.1
    refine CallM.A hτ hM (m_again_some hM b0 hk ((z1 k hk).trans (if_neg (by rw [e1]; exact fun c => nomatch c)))) ((a4 k U hk e1).mv hwU (fun q hq => ?_)) (fun q h1 h2 => ?_) hwU hfU
    · rw [blk_at (by omega), if_pos (by omega), show 1090 * (k + 1) + (0 + q - 0) = 1090 * (k + 1) + q by omega]
    · rw [blk_at (by omega), if_neg (by omega)]
end
