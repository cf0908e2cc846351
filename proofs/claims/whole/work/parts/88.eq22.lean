/-! Both sides answer alike: the weeks. -/
noncomputable section
def RW (S : Sch) (P : Pln) (c : Int32 × (Nat → Int32) × (Nat → Int32)) (r : (Nat → Int32) × (Nat → Int32) × (Nat → Int32)) : Prop := c.1 = r.1 27 ∧ ∀ d, d < P.1 → c.2.1 d = r.2.1 d ∧ c.2.2 d = r.2.2 d ∧ inS S (r.2.1 d) ∧ (r.2.2 d = -1 ∨ (¬ r.2.2 d < 0 ∧ r.2.1 d = 0))
theorem week_eq {S : Sch} {P : Pln} {sd : Int32} {w : Nat} {si0 en0 g0 vs ve : Nat → Int32} (hn : S.1 ≤ 16) {k : Nat} (hk : k < 2 ^ 31) {c : Int32 × (Nat → Int32) × (Nat → Int32)} {r : (Nat → Int32) × (Nat → Int32) × (Nat → Int32)} (h : RW S P c r) : RW S P (F_run_51 S P sd w si0 en0 k c) (F_m_passes_49 S P sd w g0 vs ve k r) := by
  obtain ⟨h1, h2⟩ := h
  have m1 : (-1 : Int32) < 0 := by decide
  have key := fo_rel (F := F_run_61 S P sd w si0 en0 k c) (G := F_m_passes_59 S P sd w g0 vs ve k r) (fun e (x : Int32 × (Nat → Int32) × (Nat → Int32)) (a : (Nat → Int32) × (Nat → Int32)) => x.1 = a.1 27 ∧ ∀ d, d < P.1 → (d < e → x.2.1 d = (if r.2.2 d = -1 ∧ K_bc (a.2 d) < S.2.2 9 2 then 0 else a.2 d) ∧ x.2.2 d = (if r.2.2 d = -1 ∧ K_bc (a.2 d) < S.2.2 9 2 then nI k else r.2.2 d) ∧ inS S (a.2 d) ∧ (¬ r.2.2 d = -1 → a.2 d = 0)) ∧ (¬ d < e → x.2.1 d = r.2.1 d ∧ x.2.2 d = r.2.2 d ∧ a.2 d = r.2.1 d)) P.1 0 (c.1, c.2.1, c.2.2) (r.1, r.2.1) ⟨h1, fun d hd => ⟨fun q => absurd q (Nat.not_lt_zero d), fun _ => ⟨(h2 d hd).1, (h2 d hd).2.1, rfl⟩⟩⟩ (fun e x a _ he ⟨a1, a2⟩ => by
    have he : e < P.1 := by omega
    obtain ⟨b1, b2, b3⟩ := (a2 e he).2 (Nat.lt_irrefl e)
    obtain ⟨-, -, b4, b5⟩ := h2 e he
    obtain ⟨s1, s2, s3⟩ := shrink_DR S (P.2 e) e x.1 x.2.1
    obtain ⟨t1, t2, t3⟩ := draws_DR S P sd w g0 vs ve k r e a
    have s1 := s1.trans (show (DR S (P.2 e 3) x.1 (x.2.1 e)).1 = (DR S (P.2 e 3) (a.1 27) (r.2.1 e)).1 by rw [a1, b1])
    have s2 := s2.trans (show (DR S (P.2 e 3) x.1 (x.2.1 e)).2 = (DR S (P.2 e 3) (a.1 27) (r.2.1 e)).2 by rw [a1, b1])
    rw [b3] at t1 t2
    unfold F_run_61 F_m_passes_59
    rcases b5 with b5 | ⟨b5, b6⟩
    · rw [b2, if_pos b5, if_pos (show r.2.2 e < 0 by rw [b5]; exact m1)]
      have hin : inS S (DR S (P.2 e 3) (a.1 27) (r.2.1 e)).2 := DR_inS hn b4
      by_cases cb : K_bc ((K_shrink S (P.2 e) e x.1 x.2.1).2 e) < S.2.2 9 2
      · rw [if_pos cb]
        rw [s2] at cb
        refine ⟨by rw [s1, t1], fun d hd => ?_⟩
        by_cases ed : d = e
        · subst ed
          refine ⟨fun _ => ?_, fun q => absurd (Nat.lt_succ_self d) q⟩
          dsimp only
          rw [t2, if_pos ⟨b5, cb⟩, if_pos ⟨b5, cb⟩]
          exact ⟨pk_us, pk_us, hin, fun q => absurd b5 q⟩
        · obtain ⟨x1, x2⟩ := a2 d hd
          dsimp only
          rw [pk_un ed, pk_un ed, s3 d ed, t3 d ed]
          exact ⟨fun q => x1 (by omega), fun q => x2 (by omega)⟩
      · rw [if_neg cb]
        rw [s2] at cb
        refine ⟨by rw [s1, t1], fun d hd => ?_⟩
        by_cases ed : d = e
        · subst ed
          refine ⟨fun _ => ?_, fun q => absurd (Nat.lt_succ_self d) q⟩
          dsimp only
          rw [t2, if_neg (fun q => cb q.2), if_neg (fun q => cb q.2), s2, b2]
          exact ⟨rfl, rfl, hin, fun q => absurd b5 q⟩
        · obtain ⟨x1, x2⟩ := a2 d hd
          dsimp only
          rw [s3 d ed, t3 d ed]
          exact ⟨fun q => x1 (by omega), fun q => x2 (by omega)⟩
    · have hne : ¬ r.2.2 e = -1 := fun q => b5 (by rw [q]; exact m1)
      rw [b2, if_neg hne, if_neg b5]
      rw [b6, DR_0 _ _ _ hn] at s1 s2
      refine ⟨by rw [s1], fun d hd => ?_⟩
      by_cases ed : d = e
      · subst ed
        refine ⟨fun _ => ?_, fun q => absurd (Nat.lt_succ_self d) q⟩
        dsimp only
        rw [b3, b6, if_neg (fun q => hne q.1), if_neg (fun q => hne q.1), s2, b2]
        exact ⟨rfl, rfl, inS_0, fun _ => rfl⟩
      · obtain ⟨x1, x2⟩ := a2 d hd
        dsimp only
        rw [s3 d ed]
        exact ⟨fun q => x1 (by omega), fun q => x2 (by omega)⟩)
  rw [Nat.zero_add] at key
  unfold F_run_51 F_m_passes_49
  generalize fo (F_run_61 S P sd w si0 en0 k c) P.1 0 (c.1, c.2.1, c.2.2) = x at key ⊢
  generalize fo (F_m_passes_59 S P sd w g0 vs ve k r) P.1 0 (r.1, r.2.1) = a at key ⊢
  obtain ⟨k1, k2⟩ := key
  have ends := fo_inv (F := F_m_passes_180 S P sd w g0 vs ve k r) (fun e (z : (Nat → Int32) × (Nat → Int32)) => ∀ d, d < P.1 → (d < e → z.1 d = (if r.2.2 d = -1 ∧ K_bc (a.2 d) < S.2.2 9 2 then 0 else a.2 d) ∧ z.2 d = (if r.2.2 d = -1 ∧ K_bc (a.2 d) < S.2.2 9 2 then nI k else r.2.2 d)) ∧ (¬ d < e → z.1 d = a.2 d ∧ z.2 d = r.2.2 d)) P.1 0 (a.2, r.2.2) (fun d hd => ⟨fun q => absurd q (Nat.not_lt_zero d), fun _ => ⟨rfl, rfl⟩⟩) (fun e z _ he hz => by
    have he : e < P.1 := by omega
    obtain ⟨z1, z2⟩ := (hz e he).2 (Nat.lt_irrefl e)
    obtain ⟨-, -, -, b5⟩ := h2 e he
    have hin := ((k2 e he).1 he).2.2.1
    unfold F_m_passes_180
    rw [z1, z2, many_inS hn hin]
    rcases b5 with b5 | ⟨b5, b6⟩
    · rw [if_pos (show r.2.2 e < 0 by rw [b5]; exact m1)]
      by_cases cb : K_bc (a.2 e) < S.2.2 9 2
      · rw [if_pos cb]
        intro d hd
        by_cases ed : d = e
        · subst ed
          refine ⟨fun _ => ?_, fun q => absurd (Nat.lt_succ_self d) q⟩
          rw [if_pos ⟨b5, cb⟩, if_pos ⟨b5, cb⟩]
          exact ⟨pk_us, pk_us⟩
        · obtain ⟨x1, x2⟩ := hz d hd
          dsimp only
          rw [pk_un ed, pk_un ed]
          exact ⟨fun q => x1 (by omega), fun q => x2 (by omega)⟩
      · rw [if_neg cb]
        intro d hd
        by_cases ed : d = e
        · subst ed
          refine ⟨fun _ => ?_, fun q => absurd (Nat.lt_succ_self d) q⟩
          rw [if_neg (fun q => cb q.2), if_neg (fun q => cb q.2)]
          exact ⟨z1, z2⟩
        · obtain ⟨x1, x2⟩ := hz d hd
          exact ⟨fun q => x1 (by omega), fun q => x2 (by omega)⟩
    · have hne : ¬ r.2.2 e = -1 := fun q => b5 (by rw [q]; exact m1)
      rw [if_neg b5]
      intro d hd
      by_cases ed : d = e
      · subst ed
        refine ⟨fun _ => ?_, fun q => absurd (Nat.lt_succ_self d) q⟩
        rw [if_neg (fun q => hne q.1), if_neg (fun q => hne q.1)]
        exact ⟨z1, z2⟩
      · obtain ⟨x1, x2⟩ := hz d hd
        exact ⟨fun q => x1 (by omega), fun q => x2 (by omega)⟩)
  rw [Nat.zero_add] at ends
  generalize fo (F_m_passes_180 S P sd w g0 vs ve k r) P.1 0 (a.2, r.2.2) = z at ends ⊢
  refine ⟨k1, fun d hd => ?_⟩
  obtain ⟨x1, x2, x3, x4⟩ := (k2 d hd).1 hd
  obtain ⟨z1, z2⟩ := (ends d hd).1 hd
  show x.2.1 d = z.1 d ∧ x.2.2 d = z.2 d ∧ inS S (z.1 d) ∧ (z.2 d = -1 ∨ (¬ z.2 d < 0 ∧ z.1 d = 0))
  rw [x1, x2, z1, z2]
  refine ⟨rfl, rfl, ?_, ?_⟩
  · split
    · exact inS_0
    · exact x3
  · by_cases cb : r.2.2 d = -1 ∧ K_bc (a.2 d) < S.2.2 9 2
    · rw [if_pos cb, if_pos cb]
      exact Or.inr ⟨nI_pos hk, rfl⟩
    · rw [if_neg cb, if_neg cb]
      rcases (h2 d hd).2.2.2 with b5 | ⟨b5, -⟩
      · exact Or.inl b5
      · exact Or.inr ⟨b5, x4 (fun q => b5 (by rw [q]; exact m1))⟩
end
