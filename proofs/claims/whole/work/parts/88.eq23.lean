/-! Both sides answer alike: weeks, ended, holds. -/
noncomputable section
theorem init_at (P : Pln) (si en : Nat → Int32) : ∀ d, d < P.1 → (fo (fun k (z : (Nat → Int32) × (Nat → Int32)) => ((upd z.1 k ((P.2 k) 5)), (upd z.2 k (-1 : Int32)))) P.1 0 (si, en)).1 d = P.2 d 5 ∧ (fo (fun k (z : (Nat → Int32) × (Nat → Int32)) => ((upd z.1 k ((P.2 k) 5)), (upd z.2 k (-1 : Int32)))) P.1 0 (si, en)).2 d = -1 := by
  have := fo_inv (F := fun k (z : (Nat → Int32) × (Nat → Int32)) => ((upd z.1 k ((P.2 k) 5)), (upd z.2 k (-1 : Int32)))) (fun i z => ∀ d, d < i → z.1 d = P.2 d 5 ∧ z.2 d = -1) P.1 0 (si, en) (fun d h => absurd h (Nat.not_lt_zero d)) (fun k z _ _ h d hd => by
    show upd z.1 k ((P.2 k) 5) d = _ ∧ upd z.2 k (-1 : Int32) d = _
    by_cases ed : d = k
    · rw [ed, pk_us, pk_us]; exact ⟨rfl, rfl⟩
    · rw [pk_un ed, pk_un ed]; exact h d (by omega))
  rw [Nat.zero_add] at this
  exact this
theorem run_eq {S : Sch} {P : Pln} {sd : Int32} {w : Nat} {si en g vs ve : Nat → Int32} (hn : S.1 ≤ 16) (hgo : goP S P) (hw : w < 2 ^ 30) : RW S P (K_run S P sd w si en) (K_m_passes S P sd w g vs ve) := by
  have ini : ∀ d, d < P.1 → (fo (F_run_8 S P sd w si en) P.1 0 (si, en)).1 d = P.2 d 5 ∧ (fo (F_run_8 S P sd w si en) P.1 0 (si, en)).2 d = -1 := init_at P si en
  have ini2 : ∀ d, d < P.1 → (fo (F_m_passes_8 S P sd w g vs ve) P.1 0 (vs, ve)).1 d = P.2 d 5 ∧ (fo (F_m_passes_8 S P sd w g vs ve) P.1 0 (vs, ve)).2 d = -1 := init_at P vs ve
  have key := fo_rel (F := F_run_51 S P sd w si en) (G := F_m_passes_49 S P sd w g vs ve) (fun _ c r => RW S P c r) ((w + 1) - 1) 1 (sd, (fo (F_run_8 S P sd w si en) P.1 0 (si, en)).1, (fo (F_run_8 S P sd w si en) P.1 0 (si, en)).2) ((upd g 27 sd), (fo (F_m_passes_8 S P sd w g vs ve) P.1 0 (vs, ve)).1, (fo (F_m_passes_8 S P sd w g vs ve) P.1 0 (vs, ve)).2) ⟨(pk_us : upd g 27 sd 27 = sd).symm, fun d hd => by
    obtain ⟨a1, a2⟩ := ini d hd
    obtain ⟨b1, b2⟩ := ini2 d hd
    refine ⟨a1.trans b1.symm, a2.trans b2.symm, ?_, Or.inl b2⟩
    show inS S ((fo (F_m_passes_8 S P sd w g vs ve) P.1 0 (vs, ve)).1 d)
    rw [b1]
    exact (hgo d hd).2⟩ (fun k c r _ hk h => week_eq hn (by omega) h)
  exact key
theorem weeksA_eq {T : Tol} {i j w : Nat} {sd xv : Int32} {si en g vs ve : Nat → Int32} (hn : (tS T i).1 ≤ 16) (hgo : goP (tS T i) (tP T j)) (hw : w < 2 ^ 30) : (K_m_weeksA T i j sd w g vs ve).1 = (K_weeksA T i j sd w xv si en).1 := by
  obtain ⟨-, h⟩ := run_eq (sd := sd) (si := si) (en := en) (g := g) (vs := vs) (ve := ve) hn hgo hw
  show fo (F_m_weeksA_74 T i j sd w g vs ve) (tP T j).1 0 0 = fo (F_stillAll_4 (K_run (tS T i) (tP T j) sd w si en).2.1 (tP T j).1) (tP T j).1 0 0
  refine fo_cong _ _ _ (fun k z _ hk => ?_)
  obtain ⟨a1, -, a3, -⟩ := h k (by omega)
  unfold F_m_weeksA_74 F_stillAll_4 K_still
  rw [many_inS hn a3, a1]
theorem weeksK_eq {T : Tol} {i j w k0 : Nat} {sd xv : Int32} {si en g vs ve : Nat → Int32} (hn : (tS T i).1 ≤ 16) (h6 : (tP T j).1 ≤ 6) (hgo : goP (tS T i) (tP T j)) (hw : w < 2 ^ 30) (hk0 : k0 < (tP T j).1) : (K_m_weeksK T i j sd w k0 g vs ve).1 = (K_weeksK T i j sd w k0 xv si en).1 := by
  obtain ⟨-, h⟩ := run_eq (sd := sd) (si := si) (en := en) (g := g) (vs := vs) (ve := ve) hn hgo hw
  obtain ⟨a1, -, a3, -⟩ := h k0 hk0
  show fo (F_m_weeksK_74 T i j sd w k0 g vs ve) (tP T j).1 0 0 = K_bc ((K_run (tS T i) (tP T j) sd w si en).2.1 k0)
  have key := fo_inv (F := F_m_weeksK_74 T i j sd w k0 g vs ve) (fun k z => z = if k0 < k then K_many ((K_m_passes (tS T i) (tP T j) sd w g vs ve).2.1 k0) else 0) (tP T j).1 0 (0 : Int32) (by rw [if_neg (Nat.not_lt_zero k0)]) (fun k z _ hk hz => by
    unfold F_m_weeksK_74
    by_cases e : k = k0
    · subst e
      rw [if_pos rfl, hz, if_neg (Nat.lt_irrefl k), if_pos (Nat.lt_succ_self k), Int32.zero_add]
    · rw [if_neg (show ¬ nI k = nI k0 from fun q => e (nI_injL (by omega) (by omega) q)), hz, Int32.add_zero]
      by_cases c : k0 < k
      · rw [if_pos c, if_pos (show k0 < k + 1 by omega)]
      · rw [if_neg c, if_neg (show ¬ k0 < k + 1 by omega)])
  rw [Nat.zero_add, if_pos hk0] at key
  rw [key, many_inS hn a3, a1]
theorem ended_eq {T : Tol} {i j k0 : Nat} {sd xv : Int32} {si en g vs ve : Nat → Int32} (hn : (tS T i).1 ≤ 16) (hgo : goP (tS T i) (tP T j)) (hw : ((tS T i).2.2 9 7).toNatClampNeg < 2 ^ 30) (hk0 : k0 < (tP T j).1) : (K_m_ended T i j sd k0 g vs ve).1 = (K_ended T i j sd k0 xv si en).1 := by
  obtain ⟨-, h⟩ := run_eq (sd := sd) (si := si) (en := en) (g := g) (vs := vs) (ve := ve) hn hgo hw
  obtain ⟨-, a2, -, -⟩ := h k0 hk0
  exact a2.symm
theorem holds_eq {T : Tol} {i j w k0 : Nat} {sd xv : Int32} {si en g vs ve : Nat → Int32} (hn : (tS T i).1 ≤ 16) (hgo : goP (tS T i) (tP T j)) (hw : ((tS T i).2.2 9 7).toNatClampNeg < 2 ^ 30) (hk0 : k0 < (tP T j).1) : (K_m_holds T i j sd w k0 g vs ve).1 = (K_holds T i j sd w k0 xv si en).1 := by
  have key := fo_rel (F := F_m_holds_30 T i j sd w k0 g vs ve) (G := F_holds_59 T i j sd w k0 xv si en) (fun _ (b : Int32 × (Nat → Int32) × (Nat → Int32) × (Nat → Int32)) (a : Int32 × Int32 × (Nat → Int32) × (Nat → Int32)) => b.1 = a.1) w 0 ((0 : Int32), g, vs, ve) ((0 : Int32), xv, si, en) rfl (fun k b a _ _ hz => by
    obtain ⟨-, h⟩ := run_eq (S := tS T i) (P := tP T j) (sd := sd + nI k) (w := ((tS T i).2.2 9 7).toNatClampNeg) (si := a.2.2.1) (en := a.2.2.2) (g := b.2.1) (vs := b.2.2.1) (ve := b.2.2.2) hn hgo hw
    obtain ⟨-, a2, -, a4⟩ := h k0 hk0
    unfold F_m_holds_30 F_holds_59 K_endOf
    have e : (K_m_ended T i j (sd + nI k) k0 b.2.1 b.2.2.1 b.2.2.2).1 = (K_m_passes (tS T i) (tP T j) (sd + nI k) ((tS T i).2.2 9 7).toNatClampNeg b.2.1 b.2.2.1 b.2.2.2).2.2 k0 := rfl
    rw [e, a2]
    rcases a4 with a4 | ⟨a4, -⟩
    · rw [a4, if_pos (show (-1 : Int32) < 0 by decide), if_pos rfl]
      show b.1 + 1 = a.1 + 1
      rw [hz]
    · rw [if_neg a4, if_neg (fun q => a4 (by rw [q]; decide))]
      show b.1 + 0 = a.1
      rw [hz, Int32.add_zero])
  exact key
end
