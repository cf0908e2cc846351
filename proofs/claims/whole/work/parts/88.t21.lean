/-! Both answer alike: image. -/
noncomputable section
section
variable {Γ : ex_G} {σ : ex_S} {x q a p y : Nat} {S : Sch} {T : Tol} {P : Pln} {g A : Nat → Int32}
theorem image_old (hX : isX σ x) (hT : isT σ (x + 1) T) (hf : fitT T) {im : Nat → Option Nat} (hI : σ.2 (x + 62) = some (.inr (.inl (6, 3, im)))) {k a : Nat} (hk : k < 3) (hn : im k = some a) {U : Tol} (hU : isT σ a U) (ha : x + 62 ≤ a) : Ret Γ m_SD_image 0 0 [.ref x, .int (nI k)] σ (fun r τ => r = some (.int 1) ∧ frm σ τ a (a + 61) ∧ isT τ a T) := by
  generalize hQ : (fun (r : Option Value) (τ : ex_S) => r = some (Value.int 1) ∧ frm σ τ a (a + 61) ∧ isT τ a T) = Q
  refine Ret.start pm_45 rfl ?_
  refine Ev.iload_n rfl rfl ?_
  refine Ev.if_lt (tgt := 9) rfl (by decide) (fun c1 => absurd c1 (nI_pos (by omega))) (fun c1 => ?_)
  refine Ev.iload_n rfl rfl ?_
  refine Ev.iconst (v := 3) rfl (by decide) ?_
  refine Ev.icmp_lt (tgt := 11) rfl (by decide) (fun c6 => ?_) (fun c6 => absurd (nI_lt (b := 3) hk (by omega)) c6)
  refine Ev.aload_n rfl rfl ?_
  refine Ev.getf rfl rfl hX rfl ?_
  refine Ev.iload_n rfl rfl ?_
  refine Ev.aaldN (k := k) rfl hI rfl rfl ⟨hk, by decide⟩ hn ?_
  refine Ev.ifnonnull (tgt := 33) rfl (by decide) ?_
  refine Ev.aload_n rfl rfl ?_
  refine Ev.getf rfl rfl hX rfl ?_
  refine Ev.iload_n rfl rfl ?_
  refine Ev.aaldN (k := k) rfl hI rfl rfl ⟨hk, by decide⟩ hn ?_
  refine Ev.aload_n rfl rfl ?_
  refine Ev.getf rfl rfl hX rfl ?_
  refine Ev.xV1u rfl rfl hU.1 rfl rfl (by decide) ⟨by omega, by omega⟩ (copyT_ok hU hT (fun i hi => fit_byte (hf i hi)) (by omega)) (fun τ9 f9 q9 => ?_)
  refine Ev.iconst (v := 1) rfl (by decide) ?_
  refine Ev.iret (ty := .boolean) rfl rfl rfl (by omega) (by omega) ?_
  rw [← hQ]
  exact ⟨rfl, f9, q9⟩
theorem image_new (hX : isX σ x) (hT : isT σ (x + 1) T) (hf : fitT T) {im : Nat → Option Nat} (hI : σ.2 (x + 62) = some (.inr (.inl (6, 3, im)))) {k : Nat} (hk : k < 3) (hn : im k = none) (hx : x + 63 ≤ σ.1) : Ret Γ m_SD_image 61 1130 [.ref x, .int (nI k)] σ (fun r τ => r = some (.int 1) ∧ τ.1 = σ.1 + 61 ∧ (∀ q, q < σ.1 → q ≠ x + 62 → τ.2 q = σ.2 q) ∧ τ.2 (x + 62) = some (.inr (.inl (6, 3, va_up im k (some σ.1)))) ∧ isT τ σ.1 T) := by
  generalize hQ : (fun (r : Option Value) (τ : ex_S) => r = some (Value.int 1) ∧ τ.1 = σ.1 + 61 ∧ (∀ q, q < σ.1 → q ≠ x + 62 → τ.2 q = σ.2 q) ∧ τ.2 (x + 62) = some (.inr (.inl (6, 3, va_up im k (some σ.1)))) ∧ isT τ σ.1 T) = Q
  refine Ret.start pm_45 rfl ?_
  refine Ev.iload_n rfl rfl ?_
  refine Ev.if_lt (tgt := 9) rfl (by decide) (fun c1 => absurd c1 (nI_pos (by omega))) (fun c1 => ?_)
  refine Ev.iload_n rfl rfl ?_
  refine Ev.iconst (v := 3) rfl (by decide) ?_
  refine Ev.icmp_lt (tgt := 11) rfl (by decide) (fun c6 => ?_) (fun c6 => absurd (nI_lt (b := 3) hk (by omega)) c6)
  refine Ev.aload_n rfl rfl ?_
  refine Ev.getf rfl rfl hX rfl ?_
  refine Ev.iload_n rfl rfl ?_
  refine Ev.aaldNul (k := k) rfl hI rfl rfl ⟨hk, by decide⟩ hn ?_
  refine Ev.ifnonnullN rfl ?_
  refine Ev.aload_n rfl rfl ?_
  refine Ev.getf rfl rfl hX rfl ?_
  refine Ev.iload_n rfl rfl ?_
  refine Ev.newcE (nf := 8) (b := σ.1) (fs := [.null, .int 0, .int 0, .int 0, .null, .int 0, .null, .int 0]) rfl rfl rfl rfl rfl (fun j hj => by have hj : j < 8 := hj; match j, hj with | 0, _ => rfl | 1, _ => rfl | 2, _ => rfl | 3, _ => rfl | 4, _ => rfl | 5, _ => rfl | 6, _ => rfl | 7, _ => rfl) (by omega) (by omega) (fun τ1 z1 k1 o1 => ?_)
  refine Ev.dup rfl rfl ?_
  refine Ev.mkI rfl rfl rfl rfl ⟨by omega, by omega⟩ (State_init_ok z1 o1) (fun τ2 z2 k2 s2 => ?_)
  have kk : ∀ q, q < σ.1 → τ2.2 q = σ.2 q := fun q h => (k2 q h).trans (k1 q h)
  have hI2 := (kk (x + 62) (by omega)).trans hI
  refine Ev.aastE (k := k) rfl hI2 rfl rfl s2.1 rfl ⟨hk, by decide⟩ (fun τ3 f3 q3 => ?_)
  have k3 : ∀ q, q < σ.1 → q ≠ x + 62 → τ3.2 q = σ.2 q := fun q h h2 => (f3.2 q (by omega)).trans (kk q h)
  have hX : isX τ3 x := (k3 x (by omega) (by omega)).trans hX
  have hT : isT τ3 (x + 1) T := hT.keep (fun q h1 h2 => k3 q (by omega) (by omega))
  have hU : isT τ3 σ.1 T0 := s2.frm f3 (by omega)
  have hI := q3
  have hn : va_up im k (some σ.1) k = some σ.1 := va_up_self _ _ _
  refine Ev.aload_n rfl rfl ?_
  refine Ev.getf rfl rfl hX rfl ?_
  refine Ev.iload_n rfl rfl ?_
  refine Ev.aaldN (k := k) rfl hI rfl rfl ⟨hk, by decide⟩ hn ?_
  refine Ev.aload_n rfl rfl ?_
  refine Ev.getf rfl rfl hX rfl ?_
  refine Ev.xV1u rfl rfl hU.1 rfl rfl (by decide) ⟨by omega, by omega⟩ (copyT_ok hU hT (fun i hi => fit_byte (hf i hi)) (by omega)) (fun τ9 f9 q9 => ?_)
  refine Ev.iconst (v := 1) rfl (by decide) ?_
  refine Ev.iret (ty := .boolean) rfl rfl rfl (by omega) (by omega) ?_
  rw [← hQ]
  exact ⟨rfl, by rw [f9.1, f3.1]; exact z2, fun q h h2 => (f9.2 q (by omega)).trans (k3 q h h2), (f9.2 _ (by omega)).trans q3, q9⟩
end
theorem va_up_id {f : Nat → Option Nat} {k a : Nat} (h : f k = some a) : va_up f k (some a) = f := by
  funext j
  by_cases e : j = k
  · rw [e, va_up_self, h]
  · rw [va_up_ne _ _ e]
theorem pr_image {Γ : ex_G} {x : Nat} (k : Int32) : Pair Γ x m_SD_image m_M_image [.int k] := by
  intro σ T I h
  obtain ⟨hX, hT, hw⟩ := h.c
  have hIw := h.2.2.2.2.1
  have hx := h.2.2.2.2.2
  have hfT := h.2.2.2.1
  obtain ⟨im, bb, hcI, hcB⟩ := h.1.2.2.1
  obtain ⟨hI, hall, hdis⟩ := id hcI
  rcases ix_cases k (n := 3) (by omega) with hk | hk | ⟨k, hk, rfl⟩
  · skip
    refine ⟨_, T, I, CallC.pure h (image_bad hX (Or.inl hk)), fun τ hτ => ?_⟩
    obtain ⟨g, A, hM, hmT⟩ := hτ.m
    exact CallM.pure hτ (m_image_bad hM (Or.inl hk))
  · skip
    refine ⟨_, T, I, CallC.pure h (image_bad hX (Or.inr hk)), fun τ hτ => ?_⟩
    obtain ⟨g, A, hM, hmT⟩ := hτ.m
    exact CallM.pure hτ (m_image_bad hM (Or.inr hk))
  refine ⟨1, T, fun j => if j = k then some T else I j, ?_, fun τ hτ => ?_⟩
  · rcases hall k hk with ⟨e1, e2⟩ | ⟨a, U, e1, e2, e3, e4, e5⟩
    · refine ⟨61, 1130, by omega, by omega, Ret.imp (image_new hX hT hfT hI hk e2 (by omega)) (fun r τ q => ?_)⟩
      obtain ⟨q1, q2, q3, q4, q5⟩ := q
      have hbb : ∀ b, bb 0 = some b → b < σ.1 ∨ σ.1 + 61 ≤ b := fun b e => by
        obtain ⟨n, wo, co, ne, a1, a2, a3, a4, a5, a6⟩ := hcB
        obtain ⟨-, -, b3, -⟩ := a6 b e
        omega
      have hdd : ∀ j c, j < 3 → j ≠ k → im j = some c → σ.1 + 61 ≤ c ∨ c + 61 ≤ σ.1 := fun j c hj hjk hc => by
        rcases hall j hj with ⟨-, i2⟩ | ⟨d, U, -, i2, -, -, i5⟩
        · rw [hc] at i2; cases i2
        · rw [hc] at i2; cases i2; omega
      exact ⟨q1, h.1.img hx hk hcI hcB (fun q h1 h2 _ => q3 q h1 h2) (by omega) q4 hdd hbb (by omega) (by omega) q5, h.2.1.of (fun q h1 h2 => q3 q (by omega) (by omega)), hw, hfT, hIw, by omega⟩
    · refine ⟨0, 0, by omega, by omega, Ret.imp (image_old hX hT hfT hI hk e2 e3 (by omega)) (fun r τ q => ?_)⟩
      obtain ⟨q1, q2, q3⟩ := q
      have hbb : ∀ b, bb 0 = some b → b < a ∨ a + 61 ≤ b := fun b e => by
        obtain ⟨n, wo, co, ne, a1, a2, a3, a4, a5, a6⟩ := hcB
        obtain ⟨-, -, -, b4⟩ := a6 b e
        exact b4 k a hk e2
      exact ⟨q1, h.1.img hx hk hcI hcB (fun q h1 h2 h3 => q2.2 q (by omega)) (by rw [q2.1]; exact Nat.le_refl _) (by rw [va_up_id e2]; exact (q2.2 _ (by omega)).trans hI) (fun j c hj hjk hc => (hdis j k c a hj hk hjk hc e2).symm) hbb e4 (by rw [q2.1]; exact e5) q3, h.2.1.of (fun q h1 h2 => q2.2 q (by omega)), hw, hfT, hIw, by rw [q2.1]; exact hx⟩
  · obtain ⟨g, A, hs, rd, al, bs, bm, bz, tr, rw, op, lo, me, pb, pw, st, en, hM, hmT, a4, b0, b1, b2, b3, b4, b5, b6, b7, b8, b9, b10, b11, b12, b13, b14, z1, z2⟩ := id hτ.2.1
    refine Ret.imp (m_image_some hM b0 hk) (fun r υ q => ?_)
    obtain ⟨q1, f1, q2, q3⟩ := q
    obtain ⟨hc, hM0, h3, h4, h5, h6⟩ := hτ
    have kp : ∀ q, x + 117 ≤ q → q ≠ x + 117 + 1 → q ≠ x + 117 + 2 → υ.2 q = τ.2 q := fun q h1 h2 h3 => f1.2 q (by omega)
    refine ⟨q1, hc.ref (f1.mono (by omega) (by omega)), ⟨g, _, upd hs k 1, rd, al, bs, bm, bz, tr, rw, op, lo, me, pb, pw, st, en, ⟨(kp _ (by omega) (by omega) (by omega)).trans hM.1, q2⟩, ?_, ?_, q3, (kp _ (by omega) (by omega) (by omega)).trans b1, (kp _ (by omega) (by omega) (by omega)).trans b2, (kp _ (by omega) (by omega) (by omega)).trans b3, (kp _ (by omega) (by omega) (by omega)).trans b4, (kp _ (by omega) (by omega) (by omega)).trans b5, (kp _ (by omega) (by omega) (by omega)).trans b6, (kp _ (by omega) (by omega) (by omega)).trans b7, (kp _ (by omega) (by omega) (by omega)).trans b8, (kp _ (by omega) (by omega) (by omega)).trans b9, (kp _ (by omega) (by omega) (by omega)).trans b10, (kp _ (by omega) (by omega) (by omega)).trans b11, (kp _ (by omega) (by omega) (by omega)).trans b12, (kp _ (by omega) (by omega) (by omega)).trans b13, (kp _ (by omega) (by omega) (by omega)).trans b14, ?_, z2⟩, h3, h4, fun j U hj hU => ?_, by rw [f1.1]; exact h6⟩
    · exact hmT.mv hw (fun q hq => by rw [blk_at (by omega), if_neg (by omega)])
    · intro j U hj hU
      have hU : (if j = k then some T else I j) = some U := hU
      by_cases e : j = k
      · subst e
        rw [if_pos rfl] at hU
        cases hU
        exact hmT.mv hw (fun q hq => by rw [blk_at (by omega), if_pos (by omega), show 0 + (1090 * (j + 1) + q - 1090 * (j + 1)) = 0 + q by omega])
      · rw [if_neg e] at hU
        exact (a4 j U hj hU).mv (hIw j U hj hU).1 (fun q hq => by rw [blk_at (by omega), if_neg (by omega)])
    · intro j hj
      show upd hs k 1 j = if (if j = k then some T else I j) = none then 0 else 1
      by_cases e : j = k
      · subst e
        rw [pk_us, if_pos rfl, if_neg (fun c => nomatch c)]
      · rw [pk_un e, if_neg e]
        exact z1 j hj
    · have hU : (if j = k then some T else I j) = some U := hU
      by_cases e : j = k
      · rw [if_pos e] at hU
        cases hU
        exact ⟨hw, hfT⟩
      · rw [if_neg e] at hU
        exact hIw j U hj hU
end
