/-! Sitting beside (reference): the public method (walked with invariants, hoare.py). -/
noncomputable section
theorem least_ex {p : Nat → Prop} {i : Nat} (h : p i) : ∃ i, p i ∧ ∀ j, j < i → ¬ p j := by
  have key : ∀ k, ∀ i, i ≤ k → p i → ∃ i, p i ∧ ∀ j, j < i → ¬ p j := by
    intro k
    induction k with
    | zero =>
      intro i hi hp
      exact ⟨i, hp, fun j hj => by omega⟩
    | succ k ih =>
      intro i hi hp
      by_cases c : ∃ j, j < i ∧ p j
      · obtain ⟨j, hj, hp2⟩ := c
        exact ih j (by omega) hp2
      · exact ⟨i, hp, fun j hj h => c ⟨j, hj, h⟩⟩
  exact key i i (Nat.le_refl _) h
theorem most_ex {f : Nat → Nat} {p : Nat → Prop} : ∀ (N i : Nat), i < N → p i → ∃ i, i < N ∧ p i ∧ ∀ j, j < N → p j → f j ≤ f i
  | 0, i, h, _ => absurd h (Nat.not_lt_zero _)
  | N + 1, i, h, hp => by
    by_cases c : ∃ j, j < N ∧ p j
    · obtain ⟨j, hj, hj2⟩ := c
      obtain ⟨k, k1, k2, k3⟩ := most_ex (f := f) N j hj hj2
      by_cases d : p N ∧ f k < f N
      · refine ⟨N, by omega, d.1, fun l hl hl2 => ?_⟩
        by_cases e : l = N
        · subst e; exact Nat.le_refl _
        · have := k3 l (by omega) hl2; omega
      · refine ⟨k, by omega, k2, fun l hl hl2 => ?_⟩
        by_cases e : l = N
        · subst e
          exact Nat.le_of_not_lt (fun h => d ⟨hl2, h⟩)
        · exact k3 l (by omega) hl2
    · have e : i = N := by
        rcases Nat.lt_or_ge i N with d | d
        · exact absurd ⟨i, d, hp⟩ c
        · omega
      subst e
      refine ⟨i, by omega, hp, fun l hl hl2 => ?_⟩
      by_cases e : l = i
      · subst e; exact Nat.le_refl _
      · exact absurd ⟨l, by omega, hl2⟩ c
theorem isB_ex {n : Nat} (v : Nat → Nat → Nat) (B : Nat → Nat) {s : Nat} (h0 : 0 < s) (hs : s < 2 ^ n) : ∃ M, isB n v B s M := by
  obtain ⟨f, hf⟩ := low_ex h0
  have hfn := low_lt hf hs
  obtain ⟨i, i1, i2, i3⟩ := most_ex (f := bvl n v B s f) (p := adm n s f) (n + 1) n (by omega) ⟨hfn, Or.inl rfl⟩
  exact ⟨_, f, hf, fun j hj => i3 j (by rcases hj.2 with c | c <;> omega) hj, i, i2, rfl⟩
theorem Tb_ex (n : Nat) (v : Nat → Nat → Nat) : ∀ k, k ≤ 2 ^ n → ∃ B, Tb n v B k
  | 0, _ => ⟨fun _ => 0, rfl, fun s h0 hs => by omega⟩
  | k + 1, hk => by
    obtain ⟨B, hB⟩ := Tb_ex n v k (by omega)
    by_cases c : k = 0
    · subst c
      exact ⟨B, hB.1, fun s h0 hs => by omega⟩
    · obtain ⟨M, hM⟩ := isB_ex (n := n) v B (s := k) (by omega) (by omega)
      have e : ∀ t, t < k → B t = (fun t => if t = k then M else B t) t := fun t ht => (if_neg (by omega)).symm
      refine ⟨fun t => if t = k then M else B t, (e 0 (by omega)).symm.trans hB.1, fun s h0 hs => ?_⟩
      by_cases d : s = k
      · subst d
        have q : (fun t => if t = s then M else B t) s = M := if_pos rfl
        rw [q]
        exact isB_cg (fun t ht => e t ht) hM
      · have q : (fun t => if t = k then M else B t) s = B s := if_neg d
        rw [q]
        exact isB_cg (fun t ht => e t (by omega)) (hB.2 s h0 (by omega))
theorem LW_ex {n : Nat} {v : Nat → Nat → Nat} {B : Nat → Nat} {s : Nat} (h : isB n v B s (B s)) : ∃ w, LW n v B s w := by
  obtain ⟨f, hf, -, i, h1, h2⟩ := h
  obtain ⟨w, w1, w2⟩ := least_ex (p := fun i => adm n s f i ∧ bvl n v B s f i = B s) ⟨h1, h2⟩
  exact ⟨w, f, hf, w1.1, w1.2, fun j hj ha e => w2 j hj ⟨ha, e⟩⟩
theorem LW_lt {n : Nat} {v : Nat → Nat → Nat} {B : Nat → Nat} {s f w : Nat} (h : LW n v B s w) (hf : low s f) : f < w ∧ w ≤ n ∧ (w < n → s.testBit w = true) := by
  obtain ⟨f', hf', ha, -⟩ := h
  have e := low_uniq hf hf'
  subst e
  refine ⟨ha.1, ?_, fun c => ?_⟩
  · rcases ha.2 with c | c <;> omega
  · rcases ha.2 with d | d
    · omega
    · exact d.2
theorem Prt_ex {n : Nat} {v : Nat → Nat → Nat} {B : Nat → Nat} (hB : Tb n v B (2 ^ n)) {p : Nat} (hp : p < n) : ∀ s, s < 2 ^ n → s.testBit p = true → ∃ q, q ≤ n ∧ Prt n v B s p q := by
  intro s
  induction s using Nat.strongRecOn with
  | _ s ih =>
    intro hs hb
    have h0 : 0 < s := by
      rcases Nat.eq_zero_or_pos s with c | c
      · subst c; simp at hb
      · exact c
    obtain ⟨f, hf⟩ := low_ex h0
    obtain ⟨w, hw⟩ := LW_ex (hB.2 s h0 hs)
    obtain ⟨l1, l2, l3⟩ := LW_lt hw hf
    by_cases c : p = f
    · subst c; exact ⟨w, l2, Prt_here hf hw⟩
    · by_cases d : p = w
      · subst d; exact ⟨f, by omega, Prt_there hf hw hp⟩
      · have hlt := bnx_lt (n := n) (w := w) hf
        obtain ⟨q, q1, q2⟩ := ih _ hlt (by omega) (by rw [bnx_tb hs, hb]; simp; omega)
        exact ⟨q, q1, Prt_skip hf hw c d q2⟩
/-- the walk from a set in which p sits comes to the same as from all -/
def rjs (n : Nat) (v : Nat → Nat → Nat) (B : Nat → Nat) (p t : Nat) : Prop := t < 2 ^ n ∧ t.testBit p = true ∧ ∀ r, Prt n v B t p r → Prt n v B (2 ^ n - 1) p r
theorem rjs_0 {n : Nat} {v : Nat → Nat → Nat} {B : Nat → Nat} {p : Nat} (hp : p < n) : rjs n v B p (2 ^ n - 1) := by
  have := Nat.two_pow_pos n
  exact ⟨by omega, by rw [Nat.testBit_two_pow_sub_one]; simp [hp], fun r h => h⟩
theorem rjs_go {n : Nat} {v : Nat → Nat → Nat} {B : Nat → Nat} {p t f w : Nat} (h : rjs n v B p t) (hf : low t f) (hw : LW n v B t w) (h1 : p ≠ f) (h2 : p ≠ w) : rjs n v B p (bnx n t f w) := by
  obtain ⟨a, b, c⟩ := h
  have hlt := bnx_lt (n := n) (w := w) hf
  exact ⟨by omega, by rw [bnx_tb a, b]; simp; omega, fun r hr => c r (Prt_skip hf hw h1 h2 hr)⟩
theorem rjs_n {n : Nat} {v : Nat → Nat → Nat} {B : Nat → Nat} {p t f w : Nat} (h : rjs n v B p t) (hf : low t f) (hw : LW n v B t w) (h1 : p ≠ f) (h2 : p < n) (e : w = n) : rjs n v B p (clr t f) := by
  have := rjs_go h hf hw h1 (by omega)
  unfold bnx at this
  rwa [if_pos e] at this
theorem rjs_w {n : Nat} {v : Nat → Nat → Nat} {B : Nat → Nat} {p t f w : Nat} (h : rjs n v B p t) (hf : low t f) (hw : LW n v B t w) (h1 : p ≠ f) (h2 : p ≠ w) (e : w < n) : rjs n v B p (clr (clr t f) w) := by
  have := rjs_go h hf hw h1 h2
  unfold bnx at this
  rwa [if_neg (by omega)] at this
/-- the answer: who sits beside, as a learner's number -/
def encW (n m q : Nat) : Int32 := if q = n then -1 else nI (wh m q)
section
variable {Γ : ex_G} {σ : ex_S} {x q a p y : Nat} {S : Sch} {T : Tol} {P : Pln} {g A : Nat → Int32}
theorem m_beside_many (hM : isM σ y g A) (hT : mT A 0 T) (hw : wT T)  {v_member : Nat → Int32} (m_member : σ.2 (y + 12) = some (.inl (0, 16, v_member))) {v_pairBest : Nat → Int32} (m_pairBest : σ.2 (y + 13) = some (.inl (0, 4096, v_pairBest))) {v_pairWith : Nat → Int32} (m_pairWith : σ.2 (y + 14) = some (.inl (0, 4096, v_pairWith))) {u v : Int32} {i j : Nat} (hg : gd T u v i j) {k0 : Nat} (hkk : k0 < (tP T j).1) {m : Nat} (hm : m < 2 ^ (tS T i).1) (hsm : (tP T j).2 k0 5 = nI m) (hp0 : v_pairBest 0 = 0) {l : Int32} (hb : 12 < bcn m (tS T i).1) : RetX Γ m_M_beside [.ref y, .int u, .int v, .int (nI k0), (.int l)] σ y (y + 17) (some (.int (-2))) (fun τ => ∃ g1 me pb pw : Nat → Int32, τ.2 y = some (.inr (.inr (10, mo y g1))) ∧ τ.2 (y + 12) = some (.inl (0, 16, me)) ∧ τ.2 (y + 13) = some (.inl (0, 4096, pb)) ∧ τ.2 (y + 14) = some (.inl (0, 4096, pw)) ∧ (∀ q, q ≠ y → q ≠ y + 12 → q ≠ y + 13 → q ≠ y + 14 → τ.2 q = σ.2 q) ∧ pb 0 = 0) := by
  obtain ⟨m0, m1⟩ := id hM
  have hgd := hg
  obtain ⟨rfl, hi, rfl, hj, hgo⟩ := hg
  have hi3 : i < 3 := by have := hw.2.1; omega
  have hj3 : j < 3 := by have := hw.2.2.1; omega
  have hwS := hw.2.2.2.1 i hi
  have hwP := hw.2.2.2.2 j hj
  have hn16 := hwS.1
  have hn5 := hwS.2.1
  have h6 := hwP.1
  have hS := hT.s hi
  have hP := hT.p hj
  have hs : 610 + 120 * i + 120 ≤ 4500 := by omega
  have hm16 : m < 65536 := Nat.lt_of_lt_of_le hm (p16 hn16)
  obtain ⟨n, hn⟩ : ∃ n, bcn m (tS T i).1 = n := ⟨_, rfl⟩
  have hnn : n ≤ 16 := by rw [← hn]; exact Nat.le_trans bcn_leN hn16
  rw [hn] at hb
  unfold RetX
  generalize hQ : ((fun (r : Option Value) (τ : ex_S) => r = some (.int (-2)) ∧ frm σ τ y (y + 17) ∧ (fun τ : ex_S => ∃ g1 me pb pw : Nat → Int32, τ.2 y = some (.inr (.inr (10, mo y g1))) ∧ τ.2 (y + 12) = some (.inl (0, 16, me)) ∧ τ.2 (y + 13) = some (.inl (0, 4096, pb)) ∧ τ.2 (y + 14) = some (.inl (0, 4096, pw)) ∧ (∀ q, q ≠ y → q ≠ y + 12 → q ≠ y + 13 → q ≠ y + 14 → τ.2 q = σ.2 q) ∧ pb 0 = 0) τ)) = Q
  refine Ret.start pm_251 rfl ?_
  have fr : frm σ σ y (y + 17) := frm.rf
  have kp : (∀ q, q ≠ y → q ≠ y + 12 → q ≠ y + 13 → q ≠ y + 14 → σ.2 q = σ.2 q) := fun _ _ _ _ _ => rfl
  have hM : isM _ y g A := ⟨m0, m1⟩
  refine Ev.aload_n rfl rfl ?_
  refine Ev.iload_n rfl rfl ?_
  refine Ev.iload_n rfl rfl ?_
  refine Ev.iload_n rfl rfl ?_
  refine Ev.cV3 rfl rfl m0 rfl rfl (by decide) ⟨(Nat.le_refl _), (Nat.le_refl _)⟩ (m_isGoing_yes hM hT hw hgd hkk) ?_
  refine Ev.zne (tgt := 13) rfl (by decide) (fun c7 => ?_) (fun c7 => absurd c7 (by decide))
  refine Ev.aload_n rfl rfl ?_
  refine Ev.iload_n rfl rfl ?_
  refine Ev.iload_n rfl rfl ?_
  refine Ev.cV2 rfl rfl m0 rfl rfl (by decide) ⟨(Nat.le_refl _), (Nat.le_refl _)⟩ (m_sitsIn_ok hM hP hj3 h6 k0 hkk) ?_
  rw [hsm]
  refine Ev.istore rfl rfl rfl ?_
  refine Ev.aload_n rfl rfl ?_
  refine Ev.iconst (v := 0) rfl (by decide) ?_
  refine Ev.iload_n rfl rfl ?_
  refine Ev.cS2 rfl rfl rfl (by decide) ⟨(Nat.le_refl _), (Nat.le_refl _)⟩ (m_pl0_ok i) ?_
  refine Ev.iload rfl rfl ?_
  refine Ev.xV2u rfl rfl m0 rfl rfl (by decide) ⟨(Nat.le_refl _), (Nat.le_refl _)⟩ (m_neigh_ok hM hS hs hwS m_member m_pairBest m_pairWith hm hp0) (fun τ1 f1 q1 => ?_)
  obtain ⟨g1, me, pb, pw, m0, m_member, m_pairBest, m_pairWith, kp, hN⟩ := q1
  have m1 := (kp (y + 1) (by omega) (by omega) (by omega) (by omega)).trans m1
  have fr := fr.step f1 (by omega) (by omega)
  have hM : isM _ y g1 A := ⟨m0, m1⟩
  obtain ⟨hgm, hme, hpb0, hTab⟩ := hN
  rw [hn] at hgm hme hTab
  refine Ev.aload_n rfl rfl ?_
  refine Ev.getf rfl rfl m0 rfl ?_
  rw [hgm]
  refine Ev.bipush (v := 12) rfl (by decide) ?_
  refine Ev.jgt (tgt := 67) rfl (by decide) (fun c38 => ?_) (fun c38 => absurd (nI_lt (a := 12) (by omega) (by omega)) c38)
  refine Ev.bipush (v := (-2)) rfl (by decide) ?_
  refine Ev.iret (ty := .int) rfl rfl rfl (Nat.le_refl _) (Nat.le_refl _) ?_
  rw [← hQ]
  exact ⟨rfl, fr, g1, me, pb, pw, m0, m_member, m_pairBest, m_pairWith, kp, hpb0⟩
theorem m_beside_nol (hM : isM σ y g A) (hT : mT A 0 T) (hw : wT T)  {v_member : Nat → Int32} (m_member : σ.2 (y + 12) = some (.inl (0, 16, v_member))) {v_pairBest : Nat → Int32} (m_pairBest : σ.2 (y + 13) = some (.inl (0, 4096, v_pairBest))) {v_pairWith : Nat → Int32} (m_pairWith : σ.2 (y + 14) = some (.inl (0, 4096, v_pairWith))) {u v : Int32} {i j : Nat} (hg : gd T u v i j) {k0 : Nat} (hkk : k0 < (tP T j).1) {m : Nat} (hm : m < 2 ^ (tS T i).1) (hsm : (tP T j).2 k0 5 = nI m) (hp0 : v_pairBest 0 = 0) {l : Int32} (hb : bcn m (tS T i).1 ≤ 12) (hl1 : ¬ l = -1) (hl : l < 0 ∨ nI (tS T i).1 ≤ l) : RetX Γ m_M_beside [.ref y, .int u, .int v, .int (nI k0), (.int l)] σ y (y + 17) (some (.int (-2))) (fun τ => ∃ g1 me pb pw : Nat → Int32, τ.2 y = some (.inr (.inr (10, mo y g1))) ∧ τ.2 (y + 12) = some (.inl (0, 16, me)) ∧ τ.2 (y + 13) = some (.inl (0, 4096, pb)) ∧ τ.2 (y + 14) = some (.inl (0, 4096, pw)) ∧ (∀ q, q ≠ y → q ≠ y + 12 → q ≠ y + 13 → q ≠ y + 14 → τ.2 q = σ.2 q) ∧ pb 0 = 0) := by
  obtain ⟨m0, m1⟩ := id hM
  have hgd := hg
  obtain ⟨rfl, hi, rfl, hj, hgo⟩ := hg
  have hi3 : i < 3 := by have := hw.2.1; omega
  have hj3 : j < 3 := by have := hw.2.2.1; omega
  have hwS := hw.2.2.2.1 i hi
  have hwP := hw.2.2.2.2 j hj
  have hn16 := hwS.1
  have hn5 := hwS.2.1
  have h6 := hwP.1
  have hS := hT.s hi
  have hP := hT.p hj
  have hs : 610 + 120 * i + 120 ≤ 4500 := by omega
  have hm16 : m < 65536 := Nat.lt_of_lt_of_le hm (p16 hn16)
  obtain ⟨n, hn⟩ : ∃ n, bcn m (tS T i).1 = n := ⟨_, rfl⟩
  have hnn : n ≤ 16 := by rw [← hn]; exact Nat.le_trans bcn_leN hn16
  rw [hn] at hb
  unfold RetX
  generalize hQ : ((fun (r : Option Value) (τ : ex_S) => r = some (.int (-2)) ∧ frm σ τ y (y + 17) ∧ (fun τ : ex_S => ∃ g1 me pb pw : Nat → Int32, τ.2 y = some (.inr (.inr (10, mo y g1))) ∧ τ.2 (y + 12) = some (.inl (0, 16, me)) ∧ τ.2 (y + 13) = some (.inl (0, 4096, pb)) ∧ τ.2 (y + 14) = some (.inl (0, 4096, pw)) ∧ (∀ q, q ≠ y → q ≠ y + 12 → q ≠ y + 13 → q ≠ y + 14 → τ.2 q = σ.2 q) ∧ pb 0 = 0) τ)) = Q
  refine Ret.start pm_251 rfl ?_
  have fr : frm σ σ y (y + 17) := frm.rf
  have kp : (∀ q, q ≠ y → q ≠ y + 12 → q ≠ y + 13 → q ≠ y + 14 → σ.2 q = σ.2 q) := fun _ _ _ _ _ => rfl
  have hM : isM _ y g A := ⟨m0, m1⟩
  refine Ev.aload_n rfl rfl ?_
  refine Ev.iload_n rfl rfl ?_
  refine Ev.iload_n rfl rfl ?_
  refine Ev.iload_n rfl rfl ?_
  refine Ev.cV3 rfl rfl m0 rfl rfl (by decide) ⟨(Nat.le_refl _), (Nat.le_refl _)⟩ (m_isGoing_yes hM hT hw hgd hkk) ?_
  refine Ev.zne (tgt := 13) rfl (by decide) (fun c7 => ?_) (fun c7 => absurd c7 (by decide))
  refine Ev.aload_n rfl rfl ?_
  refine Ev.iload_n rfl rfl ?_
  refine Ev.iload_n rfl rfl ?_
  refine Ev.cV2 rfl rfl m0 rfl rfl (by decide) ⟨(Nat.le_refl _), (Nat.le_refl _)⟩ (m_sitsIn_ok hM hP hj3 h6 k0 hkk) ?_
  rw [hsm]
  refine Ev.istore rfl rfl rfl ?_
  refine Ev.aload_n rfl rfl ?_
  refine Ev.iconst (v := 0) rfl (by decide) ?_
  refine Ev.iload_n rfl rfl ?_
  refine Ev.cS2 rfl rfl rfl (by decide) ⟨(Nat.le_refl _), (Nat.le_refl _)⟩ (m_pl0_ok i) ?_
  refine Ev.iload rfl rfl ?_
  refine Ev.xV2u rfl rfl m0 rfl rfl (by decide) ⟨(Nat.le_refl _), (Nat.le_refl _)⟩ (m_neigh_ok hM hS hs hwS m_member m_pairBest m_pairWith hm hp0) (fun τ1 f1 q1 => ?_)
  obtain ⟨g1, me, pb, pw, m0, m_member, m_pairBest, m_pairWith, kp, hN⟩ := q1
  have m1 := (kp (y + 1) (by omega) (by omega) (by omega) (by omega)).trans m1
  have fr := fr.step f1 (by omega) (by omega)
  have hM : isM _ y g1 A := ⟨m0, m1⟩
  obtain ⟨hgm, hme, hpb0, hTab⟩ := hN
  rw [hn] at hgm hme hTab
  refine Ev.aload_n rfl rfl ?_
  refine Ev.getf rfl rfl m0 rfl ?_
  rw [hgm]
  refine Ev.bipush (v := 12) rfl (by decide) ?_
  refine Ev.jgt (tgt := 67) rfl (by decide) (fun c38 => absurd c38 (nI_nlt (a := 12) hb (by omega))) (fun c38 => ?_)
  refine Ev.iload rfl rfl ?_
  refine Ev.iconst (v := (-1)) rfl (by decide) ?_
  refine Ev.jeq (tgt := 70) rfl (by decide) (fun c44 => absurd c44 hl1) (fun c44 => ?_)
  refine Ev.aload_n rfl rfl ?_
  refine Ev.iload_n rfl rfl ?_
  refine Ev.iload rfl rfl ?_
  refine Ev.cV2 rfl rfl m0 rfl rfl (by decide) ⟨(Nat.le_refl _), (Nat.le_refl _)⟩ (m_isLearner_no hM hT hw hi hl) ?_
  refine Ev.zeq (tgt := 67) rfl (by decide) (fun c54 => ?_) (fun c54 => absurd rfl c54)
  refine Ev.bipush (v := (-2)) rfl (by decide) ?_
  refine Ev.iret (ty := .int) rfl rfl rfl (Nat.le_refl _) (Nat.le_refl _) ?_
  rw [← hQ]
  exact ⟨rfl, fr, g1, me, pb, pw, m0, m_member, m_pairBest, m_pairWith, kp, hpb0⟩
theorem m_beside_nos (hM : isM σ y g A) (hT : mT A 0 T) (hw : wT T)  {v_member : Nat → Int32} (m_member : σ.2 (y + 12) = some (.inl (0, 16, v_member))) {v_pairBest : Nat → Int32} (m_pairBest : σ.2 (y + 13) = some (.inl (0, 4096, v_pairBest))) {v_pairWith : Nat → Int32} (m_pairWith : σ.2 (y + 14) = some (.inl (0, 4096, v_pairWith))) {u v : Int32} {i j : Nat} (hg : gd T u v i j) {k0 : Nat} (hkk : k0 < (tP T j).1) {m : Nat} (hm : m < 2 ^ (tS T i).1) (hsm : (tP T j).2 k0 5 = nI m) (hp0 : v_pairBest 0 = 0) {l : Nat} (hb : bcn m (tS T i).1 ≤ 12) (hl : l < (tS T i).1) (hs0 : m.testBit l = false) : RetX Γ m_M_beside [.ref y, .int u, .int v, .int (nI k0), (.int (nI l))] σ y (y + 17) (some (.int (-2))) (fun τ => ∃ g1 me pb pw : Nat → Int32, τ.2 y = some (.inr (.inr (10, mo y g1))) ∧ τ.2 (y + 12) = some (.inl (0, 16, me)) ∧ τ.2 (y + 13) = some (.inl (0, 4096, pb)) ∧ τ.2 (y + 14) = some (.inl (0, 4096, pw)) ∧ (∀ q, q ≠ y → q ≠ y + 12 → q ≠ y + 13 → q ≠ y + 14 → τ.2 q = σ.2 q) ∧ pb 0 = 0) := by
  obtain ⟨m0, m1⟩ := id hM
  have hgd := hg
  obtain ⟨rfl, hi, rfl, hj, hgo⟩ := hg
  have hi3 : i < 3 := by have := hw.2.1; omega
  have hj3 : j < 3 := by have := hw.2.2.1; omega
  have hwS := hw.2.2.2.1 i hi
  have hwP := hw.2.2.2.2 j hj
  have hn16 := hwS.1
  have hn5 := hwS.2.1
  have h6 := hwP.1
  have hS := hT.s hi
  have hP := hT.p hj
  have hs : 610 + 120 * i + 120 ≤ 4500 := by omega
  have hm16 : m < 65536 := Nat.lt_of_lt_of_le hm (p16 hn16)
  obtain ⟨n, hn⟩ : ∃ n, bcn m (tS T i).1 = n := ⟨_, rfl⟩
  have hnn : n ≤ 16 := by rw [← hn]; exact Nat.le_trans bcn_leN hn16
  rw [hn] at hb
  unfold RetX
  generalize hQ : ((fun (r : Option Value) (τ : ex_S) => r = some (.int (-2)) ∧ frm σ τ y (y + 17) ∧ (fun τ : ex_S => ∃ g1 me pb pw : Nat → Int32, τ.2 y = some (.inr (.inr (10, mo y g1))) ∧ τ.2 (y + 12) = some (.inl (0, 16, me)) ∧ τ.2 (y + 13) = some (.inl (0, 4096, pb)) ∧ τ.2 (y + 14) = some (.inl (0, 4096, pw)) ∧ (∀ q, q ≠ y → q ≠ y + 12 → q ≠ y + 13 → q ≠ y + 14 → τ.2 q = σ.2 q) ∧ pb 0 = 0) τ)) = Q
  refine Ret.start pm_251 rfl ?_
  have fr : frm σ σ y (y + 17) := frm.rf
  have kp : (∀ q, q ≠ y → q ≠ y + 12 → q ≠ y + 13 → q ≠ y + 14 → σ.2 q = σ.2 q) := fun _ _ _ _ _ => rfl
  have hM : isM _ y g A := ⟨m0, m1⟩
  refine Ev.aload_n rfl rfl ?_
  refine Ev.iload_n rfl rfl ?_
  refine Ev.iload_n rfl rfl ?_
  refine Ev.iload_n rfl rfl ?_
  refine Ev.cV3 rfl rfl m0 rfl rfl (by decide) ⟨(Nat.le_refl _), (Nat.le_refl _)⟩ (m_isGoing_yes hM hT hw hgd hkk) ?_
  refine Ev.zne (tgt := 13) rfl (by decide) (fun c7 => ?_) (fun c7 => absurd c7 (by decide))
  refine Ev.aload_n rfl rfl ?_
  refine Ev.iload_n rfl rfl ?_
  refine Ev.iload_n rfl rfl ?_
  refine Ev.cV2 rfl rfl m0 rfl rfl (by decide) ⟨(Nat.le_refl _), (Nat.le_refl _)⟩ (m_sitsIn_ok hM hP hj3 h6 k0 hkk) ?_
  rw [hsm]
  refine Ev.istore rfl rfl rfl ?_
  refine Ev.aload_n rfl rfl ?_
  refine Ev.iconst (v := 0) rfl (by decide) ?_
  refine Ev.iload_n rfl rfl ?_
  refine Ev.cS2 rfl rfl rfl (by decide) ⟨(Nat.le_refl _), (Nat.le_refl _)⟩ (m_pl0_ok i) ?_
  refine Ev.iload rfl rfl ?_
  refine Ev.xV2u rfl rfl m0 rfl rfl (by decide) ⟨(Nat.le_refl _), (Nat.le_refl _)⟩ (m_neigh_ok hM hS hs hwS m_member m_pairBest m_pairWith hm hp0) (fun τ1 f1 q1 => ?_)
  obtain ⟨g1, me, pb, pw, m0, m_member, m_pairBest, m_pairWith, kp, hN⟩ := q1
  have m1 := (kp (y + 1) (by omega) (by omega) (by omega) (by omega)).trans m1
  have fr := fr.step f1 (by omega) (by omega)
  have hM : isM _ y g1 A := ⟨m0, m1⟩
  obtain ⟨hgm, hme, hpb0, hTab⟩ := hN
  rw [hn] at hgm hme hTab
  refine Ev.aload_n rfl rfl ?_
  refine Ev.getf rfl rfl m0 rfl ?_
  rw [hgm]
  refine Ev.bipush (v := 12) rfl (by decide) ?_
  refine Ev.jgt (tgt := 67) rfl (by decide) (fun c38 => absurd c38 (nI_nlt (a := 12) hb (by omega))) (fun c38 => ?_)
  refine Ev.iload rfl rfl ?_
  refine Ev.iconst (v := (-1)) rfl (by decide) ?_
  refine Ev.jeq (tgt := 70) rfl (by decide) (fun c44 => absurd c44 (nI_m1 (by omega))) (fun c44 => ?_)
  refine Ev.aload_n rfl rfl ?_
  refine Ev.iload_n rfl rfl ?_
  refine Ev.iload rfl rfl ?_
  refine Ev.cV2 rfl rfl m0 rfl rfl (by decide) ⟨(Nat.le_refl _), (Nat.le_refl _)⟩ (m_isLearner_yes hM hT hw hi hl) ?_
  refine Ev.zeq (tgt := 67) rfl (by decide) (fun c54 => absurd c54 (by decide)) (fun c54 => ?_)
  refine Ev.iload rfl rfl ?_
  refine Ev.iload rfl rfl ?_
  refine Ev.ishr rfl ?_
  refine Ev.iconst (v := 1) rfl (by decide) ?_
  refine Ev.iand rfl ?_
  refine Ev.zne (tgt := 70) rfl (by decide) (fun c64 => absurd ((nbit (v := m) (k := l) (by omega) (by omega)).mpr hs0) c64) (fun c64 => ?_)
  refine Ev.bipush (v := (-2)) rfl (by decide) ?_
  refine Ev.iret (ty := .int) rfl rfl rfl (Nat.le_refl _) (Nat.le_refl _) ?_
  rw [← hQ]
  exact ⟨rfl, fr, g1, me, pb, pw, m0, m_member, m_pairBest, m_pairWith, kp, hpb0⟩
theorem m_beside_all (hM : isM σ y g A) (hT : mT A 0 T) (hw : wT T)  {v_member : Nat → Int32} (m_member : σ.2 (y + 12) = some (.inl (0, 16, v_member))) {v_pairBest : Nat → Int32} (m_pairBest : σ.2 (y + 13) = some (.inl (0, 4096, v_pairBest))) {v_pairWith : Nat → Int32} (m_pairWith : σ.2 (y + 14) = some (.inl (0, 4096, v_pairWith))) {u v : Int32} {i j : Nat} (hg : gd T u v i j) {k0 : Nat} (hkk : k0 < (tP T j).1) {m : Nat} (hm : m < 2 ^ (tS T i).1) (hsm : (tP T j).2 k0 5 = nI m) (hp0 : v_pairBest 0 = 0) (hb : bcn m (tS T i).1 ≤ 12) {B : Nat → Nat} (hB : Tb (bcn m (tS T i).1) (tvS (tS T i) m) B (2 ^ (bcn m (tS T i).1))) : RetX Γ m_M_beside [.ref y, .int u, .int v, .int (nI k0), (.int (-1 : Int32))] σ y (y + 17) (some (.int (nI (B (2 ^ (bcn m (tS T i).1) - 1))))) (fun τ => ∃ g1 me pb pw : Nat → Int32, τ.2 y = some (.inr (.inr (10, mo y g1))) ∧ τ.2 (y + 12) = some (.inl (0, 16, me)) ∧ τ.2 (y + 13) = some (.inl (0, 4096, pb)) ∧ τ.2 (y + 14) = some (.inl (0, 4096, pw)) ∧ (∀ q, q ≠ y → q ≠ y + 12 → q ≠ y + 13 → q ≠ y + 14 → τ.2 q = σ.2 q) ∧ pb 0 = 0) := by
  obtain ⟨m0, m1⟩ := id hM
  have hgd := hg
  obtain ⟨rfl, hi, rfl, hj, hgo⟩ := hg
  have hi3 : i < 3 := by have := hw.2.1; omega
  have hj3 : j < 3 := by have := hw.2.2.1; omega
  have hwS := hw.2.2.2.1 i hi
  have hwP := hw.2.2.2.2 j hj
  have hn16 := hwS.1
  have hn5 := hwS.2.1
  have h6 := hwP.1
  have hS := hT.s hi
  have hP := hT.p hj
  have hs : 610 + 120 * i + 120 ≤ 4500 := by omega
  have hm16 : m < 65536 := Nat.lt_of_lt_of_le hm (p16 hn16)
  obtain ⟨n, hn⟩ : ∃ n, bcn m (tS T i).1 = n := ⟨_, rfl⟩
  have hnn : n ≤ 16 := by rw [← hn]; exact Nat.le_trans bcn_leN hn16
  rw [hn] at hb hB
  rw [hn]
  unfold RetX
  generalize hQ : ((fun (r : Option Value) (τ : ex_S) => r = some (.int (nI (B (2 ^ n - 1)))) ∧ frm σ τ y (y + 17) ∧ (fun τ : ex_S => ∃ g1 me pb pw : Nat → Int32, τ.2 y = some (.inr (.inr (10, mo y g1))) ∧ τ.2 (y + 12) = some (.inl (0, 16, me)) ∧ τ.2 (y + 13) = some (.inl (0, 4096, pb)) ∧ τ.2 (y + 14) = some (.inl (0, 4096, pw)) ∧ (∀ q, q ≠ y → q ≠ y + 12 → q ≠ y + 13 → q ≠ y + 14 → τ.2 q = σ.2 q) ∧ pb 0 = 0) τ)) = Q
  refine Ret.start pm_251 rfl ?_
  have fr : frm σ σ y (y + 17) := frm.rf
  have kp : (∀ q, q ≠ y → q ≠ y + 12 → q ≠ y + 13 → q ≠ y + 14 → σ.2 q = σ.2 q) := fun _ _ _ _ _ => rfl
  have hM : isM _ y g A := ⟨m0, m1⟩
  refine Ev.aload_n rfl rfl ?_
  refine Ev.iload_n rfl rfl ?_
  refine Ev.iload_n rfl rfl ?_
  refine Ev.iload_n rfl rfl ?_
  refine Ev.cV3 rfl rfl m0 rfl rfl (by decide) ⟨(Nat.le_refl _), (Nat.le_refl _)⟩ (m_isGoing_yes hM hT hw hgd hkk) ?_
  refine Ev.zne (tgt := 13) rfl (by decide) (fun c7 => ?_) (fun c7 => absurd c7 (by decide))
  refine Ev.aload_n rfl rfl ?_
  refine Ev.iload_n rfl rfl ?_
  refine Ev.iload_n rfl rfl ?_
  refine Ev.cV2 rfl rfl m0 rfl rfl (by decide) ⟨(Nat.le_refl _), (Nat.le_refl _)⟩ (m_sitsIn_ok hM hP hj3 h6 k0 hkk) ?_
  rw [hsm]
  refine Ev.istore rfl rfl rfl ?_
  refine Ev.aload_n rfl rfl ?_
  refine Ev.iconst (v := 0) rfl (by decide) ?_
  refine Ev.iload_n rfl rfl ?_
  refine Ev.cS2 rfl rfl rfl (by decide) ⟨(Nat.le_refl _), (Nat.le_refl _)⟩ (m_pl0_ok i) ?_
  refine Ev.iload rfl rfl ?_
  refine Ev.xV2u rfl rfl m0 rfl rfl (by decide) ⟨(Nat.le_refl _), (Nat.le_refl _)⟩ (m_neigh_ok hM hS hs hwS m_member m_pairBest m_pairWith hm hp0) (fun τ1 f1 q1 => ?_)
  obtain ⟨g1, me, pb, pw, m0, m_member, m_pairBest, m_pairWith, kp, hN⟩ := q1
  have m1 := (kp (y + 1) (by omega) (by omega) (by omega) (by omega)).trans m1
  have fr := fr.step f1 (by omega) (by omega)
  have hM : isM _ y g1 A := ⟨m0, m1⟩
  obtain ⟨hgm, hme, hpb0, hTab⟩ := hN
  rw [hn] at hgm hme hTab
  have hTab := hTab hb
  have hp12 : 2 ^ n ≤ 4096 := Nat.pow_le_pow_right (n := 2) (j := 12) (by decide) hb
  have hp1 := Nat.two_pow_pos n
  refine Ev.aload_n rfl rfl ?_
  refine Ev.getf rfl rfl m0 rfl ?_
  rw [hgm]
  refine Ev.bipush (v := 12) rfl (by decide) ?_
  refine Ev.jgt (tgt := 67) rfl (by decide) (fun c38 => absurd c38 (nI_nlt (a := 12) hb (by omega))) (fun c38 => ?_)
  refine Ev.iload rfl rfl ?_
  refine Ev.iconst (v := (-1)) rfl (by decide) ?_
  refine Ev.jeq (tgt := 70) rfl (by decide) (fun c44 => ?_) (fun c44 => absurd rfl c44)
  refine Ev.iconst (v := 1) rfl (by decide) ?_
  refine Ev.aload_n rfl rfl ?_
  refine Ev.getf rfl rfl m0 rfl ?_
  rw [hgm]
  refine Ev.ishl rfl ?_
  rw [show (1 : Int32) <<< ((nI n) &&& 31) = nI (2 ^ n) from (nq_shl rfl (by omega))]
  refine Ev.iconst (v := 1) rfl (by decide) ?_
  refine Ev.isub rfl ?_
  rw [show (nI (2 ^ n)) - (1 : Int32) = nI ((2 ^ n) - 1) from (nq_sub (a := 2 ^ n) (b := 1) rfl (rfl : (1 : Int32) = nI 1) (by omega))]
  refine Ev.istore rfl rfl rfl ?_
  refine Ev.iload rfl rfl ?_
  refine Ev.iconst (v := (-1)) rfl (by decide) ?_
  refine Ev.jne (tgt := 94) rfl (by decide) (fun c83 => absurd rfl c83) (fun c83 => ?_)
  refine Ev.aload_n rfl rfl ?_
  refine Ev.getf rfl rfl m0 rfl ?_
  refine Ev.iload rfl rfl ?_
  refine Ev.ialdN (k := (2 ^ n) - 1) rfl m_pairBest rfl ⟨(by omega), by decide⟩ ?_
  rw [(hTab.ok (s := 2 ^ n - 1) (by omega)).1, Tb_uniq hTab.tb hB (2 ^ n - 1) (by omega)]
  refine Ev.iret (ty := .int) rfl rfl rfl (Nat.le_refl _) (Nat.le_refl _) ?_
  rw [← hQ]
  exact ⟨rfl, fr, g1, me, pb, pw, m0, m_member, m_pairBest, m_pairWith, kp, hpb0⟩
theorem m_beside_one (hM : isM σ y g A) (hT : mT A 0 T) (hw : wT T)  {v_member : Nat → Int32} (m_member : σ.2 (y + 12) = some (.inl (0, 16, v_member))) {v_pairBest : Nat → Int32} (m_pairBest : σ.2 (y + 13) = some (.inl (0, 4096, v_pairBest))) {v_pairWith : Nat → Int32} (m_pairWith : σ.2 (y + 14) = some (.inl (0, 4096, v_pairWith))) {u v : Int32} {i j : Nat} (hg : gd T u v i j) {k0 : Nat} (hkk : k0 < (tP T j).1) {m : Nat} (hm : m < 2 ^ (tS T i).1) (hsm : (tP T j).2 k0 5 = nI m) (hp0 : v_pairBest 0 = 0) {l p r0 : Nat} (hb : bcn m (tS T i).1 ≤ 12) {B : Nat → Nat} (hB : Tb (bcn m (tS T i).1) (tvS (tS T i) m) B (2 ^ (bcn m (tS T i).1))) (hl : l < (tS T i).1) (hsl : m.testBit l = true) (hpn : p < bcn m (tS T i).1) (hlp : wh m p = l) (hq : Prt (bcn m (tS T i).1) (tvS (tS T i) m) B (2 ^ (bcn m (tS T i).1) - 1) p r0) : RetX Γ m_M_beside [.ref y, .int u, .int v, .int (nI k0), (.int (nI l))] σ y (y + 17) (some (.int (encW (bcn m (tS T i).1) m r0))) (fun τ => ∃ g1 me pb pw : Nat → Int32, τ.2 y = some (.inr (.inr (10, mo y g1))) ∧ τ.2 (y + 12) = some (.inl (0, 16, me)) ∧ τ.2 (y + 13) = some (.inl (0, 4096, pb)) ∧ τ.2 (y + 14) = some (.inl (0, 4096, pw)) ∧ (∀ q, q ≠ y → q ≠ y + 12 → q ≠ y + 13 → q ≠ y + 14 → τ.2 q = σ.2 q) ∧ pb 0 = 0) := by
  obtain ⟨m0, m1⟩ := id hM
  have hgd := hg
  obtain ⟨rfl, hi, rfl, hj, hgo⟩ := hg
  have hi3 : i < 3 := by have := hw.2.1; omega
  have hj3 : j < 3 := by have := hw.2.2.1; omega
  have hwS := hw.2.2.2.1 i hi
  have hwP := hw.2.2.2.2 j hj
  have hn16 := hwS.1
  have hn5 := hwS.2.1
  have h6 := hwP.1
  have hS := hT.s hi
  have hP := hT.p hj
  have hs : 610 + 120 * i + 120 ≤ 4500 := by omega
  have hm16 : m < 65536 := Nat.lt_of_lt_of_le hm (p16 hn16)
  obtain ⟨n, hn⟩ : ∃ n, bcn m (tS T i).1 = n := ⟨_, rfl⟩
  have hnn : n ≤ 16 := by rw [← hn]; exact Nat.le_trans bcn_leN hn16
  rw [hn] at hb hB hpn hq
  rw [hn]
  have hwl : ∀ j, j < n → wh m j < (tS T i).1 := fun j hj => (wh_of (L := (tS T i).1) (by omega) (by omega)).2.1
  have hwi : ∀ a b, a < n → b < n → wh m a = wh m b → a = b := fun a b ha hb => wh_inj (L := (tS T i).1) (by omega) (by omega) (by omega)
  unfold RetX
  generalize hQ : ((fun (r : Option Value) (τ : ex_S) => r = some (.int (encW n m r0)) ∧ frm σ τ y (y + 17) ∧ (fun τ : ex_S => ∃ g1 me pb pw : Nat → Int32, τ.2 y = some (.inr (.inr (10, mo y g1))) ∧ τ.2 (y + 12) = some (.inl (0, 16, me)) ∧ τ.2 (y + 13) = some (.inl (0, 4096, pb)) ∧ τ.2 (y + 14) = some (.inl (0, 4096, pw)) ∧ (∀ q, q ≠ y → q ≠ y + 12 → q ≠ y + 13 → q ≠ y + 14 → τ.2 q = σ.2 q) ∧ pb 0 = 0) τ)) = Q
  refine Ret.start pm_251 rfl ?_
  have fr : frm σ σ y (y + 17) := frm.rf
  have kp : (∀ q, q ≠ y → q ≠ y + 12 → q ≠ y + 13 → q ≠ y + 14 → σ.2 q = σ.2 q) := fun _ _ _ _ _ => rfl
  have hM : isM _ y g A := ⟨m0, m1⟩
  refine Ev.aload_n rfl rfl ?_
  refine Ev.iload_n rfl rfl ?_
  refine Ev.iload_n rfl rfl ?_
  refine Ev.iload_n rfl rfl ?_
  refine Ev.cV3 rfl rfl m0 rfl rfl (by decide) ⟨(Nat.le_refl _), (Nat.le_refl _)⟩ (m_isGoing_yes hM hT hw hgd hkk) ?_
  refine Ev.zne (tgt := 13) rfl (by decide) (fun c7 => ?_) (fun c7 => absurd c7 (by decide))
  refine Ev.aload_n rfl rfl ?_
  refine Ev.iload_n rfl rfl ?_
  refine Ev.iload_n rfl rfl ?_
  refine Ev.cV2 rfl rfl m0 rfl rfl (by decide) ⟨(Nat.le_refl _), (Nat.le_refl _)⟩ (m_sitsIn_ok hM hP hj3 h6 k0 hkk) ?_
  rw [hsm]
  refine Ev.istore rfl rfl rfl ?_
  refine Ev.aload_n rfl rfl ?_
  refine Ev.iconst (v := 0) rfl (by decide) ?_
  refine Ev.iload_n rfl rfl ?_
  refine Ev.cS2 rfl rfl rfl (by decide) ⟨(Nat.le_refl _), (Nat.le_refl _)⟩ (m_pl0_ok i) ?_
  refine Ev.iload rfl rfl ?_
  refine Ev.xV2u rfl rfl m0 rfl rfl (by decide) ⟨(Nat.le_refl _), (Nat.le_refl _)⟩ (m_neigh_ok hM hS hs hwS m_member m_pairBest m_pairWith hm hp0) (fun τ1 f1 q1 => ?_)
  obtain ⟨g1, me, pb, pw, m0, m_member, m_pairBest, m_pairWith, kp, hN⟩ := q1
  have m1 := (kp (y + 1) (by omega) (by omega) (by omega) (by omega)).trans m1
  have fr := fr.step f1 (by omega) (by omega)
  have hM : isM _ y g1 A := ⟨m0, m1⟩
  obtain ⟨hgm, hme, hpb0, hTab⟩ := hN
  rw [hn] at hgm hme hTab
  have hTab := hTab hb
  have hp12 : 2 ^ n ≤ 4096 := Nat.pow_le_pow_right (n := 2) (j := 12) (by decide) hb
  have hp1 := Nat.two_pow_pos n
  have hBe := Tb_uniq hTab.tb hB
  refine Ev.aload_n rfl rfl ?_
  refine Ev.getf rfl rfl m0 rfl ?_
  rw [hgm]
  refine Ev.bipush (v := 12) rfl (by decide) ?_
  refine Ev.jgt (tgt := 67) rfl (by decide) (fun c38 => absurd c38 (nI_nlt (a := 12) hb (by omega))) (fun c38 => ?_)
  refine Ev.iload rfl rfl ?_
  refine Ev.iconst (v := (-1)) rfl (by decide) ?_
  refine Ev.jeq (tgt := 70) rfl (by decide) (fun c44 => absurd c44 (nI_m1 (by omega))) (fun c44 => ?_)
  refine Ev.aload_n rfl rfl ?_
  refine Ev.iload_n rfl rfl ?_
  refine Ev.iload rfl rfl ?_
  refine Ev.cV2 rfl rfl m0 rfl rfl (by decide) ⟨(Nat.le_refl _), (Nat.le_refl _)⟩ (m_isLearner_yes hM hT hw hi hl) ?_
  refine Ev.zeq (tgt := 67) rfl (by decide) (fun c54 => absurd c54 (by decide)) (fun c54 => ?_)
  refine Ev.iload rfl rfl ?_
  refine Ev.iload rfl rfl ?_
  refine Ev.ishr rfl ?_
  refine Ev.iconst (v := 1) rfl (by decide) ?_
  refine Ev.iand rfl ?_
  refine Ev.zne (tgt := 70) rfl (by decide) (fun c64 => ?_) (fun c64 => absurd ((nbit (v := m) (k := l) (by omega) (by omega)).mp c64) (by rw [hsl]; decide))
  refine Ev.iconst (v := 1) rfl (by decide) ?_
  refine Ev.aload_n rfl rfl ?_
  refine Ev.getf rfl rfl m0 rfl ?_
  rw [hgm]
  refine Ev.ishl rfl ?_
  rw [show (1 : Int32) <<< ((nI n) &&& 31) = nI (2 ^ n) from (nq_shl rfl (by omega))]
  refine Ev.iconst (v := 1) rfl (by decide) ?_
  refine Ev.isub rfl ?_
  rw [show (nI (2 ^ n)) - (1 : Int32) = nI ((2 ^ n) - 1) from (nq_sub (a := 2 ^ n) (b := 1) rfl (rfl : (1 : Int32) = nI 1) (by omega))]
  refine Ev.istore rfl rfl rfl ?_
  refine Ev.iload rfl rfl ?_
  refine Ev.iconst (v := (-1)) rfl (by decide) ?_
  refine Ev.jne (tgt := 94) rfl (by decide) (fun c83 => ?_) (fun c83 => absurd c83 (nI_m1 (by omega)))
  have hl94 : ∀ (m94 : Nat) (t : Nat), (rjs n (tvS (tS T i) m) B p t) → t < m94 → ∀ τ94 : ex_S, frm σ τ94 y (y + 17) → τ94.2 (y + 1) = some (.inl (0, 4500, A)) → τ94.2 y = some (.inr (.inr (10, mo y g1))) → τ94.2 (y + 12) = some (.inl (0, 16, me)) → τ94.2 (y + 13) = some (.inl (0, 4096, pb)) → τ94.2 (y + 14) = some (.inl (0, 4096, pw)) → (∀ q, q ≠ y → q ≠ y + 12 → q ≠ y + 13 → q ≠ y + 14 → τ94.2 q = σ.2 q) → Ev Γ 0 0 m_M_beside 0 0 94 [some (.ref y), none, none, none, some (.int (nI l)), none, some (.int (nI t)), none, none] [] τ94 Q := by
    intro m94
    induction m94 with
    | zero => intro t _ hm; exact absurd hm (Nat.not_lt_zero _)
    | succ m94 ih94 =>
      intro t hJ94 hm94
      intro τ94 fr m1 m0 m_member m_pairBest m_pairWith kp
      have hM : isM _ y g1 A := ⟨m0, m1⟩
      have htl := hJ94.1
      have ht0 : 0 < t := by
        rcases Nat.eq_zero_or_pos t with c | c
        · have := hJ94.2.1; rw [c] at this; simp at this
        · exact c
      obtain ⟨i0, hi0⟩ := low_ex ht0
      have hi0n := low_lt hi0 htl
      refine Ev.iload rfl rfl ?_
      refine Ev.zle (tgt := 216) rfl (by decide) (fun c96 => absurd (nI_lt (a := 0) ht0 (by omega)) c96) (fun c96 => ?_)
      refine Ev.iconst (v := 0) rfl (by decide) ?_
      refine Ev.istore rfl rfl rfl ?_
      have hl102 : ∀ (m102 : Nat) (f : Nat), (∀ j, j < f → t.testBit j = false) → (i0 + 1 - f) < m102 → ∀ τ102 : ex_S, frm σ τ102 y (y + 17) → τ102.2 (y + 1) = some (.inl (0, 4500, A)) → τ102.2 y = some (.inr (.inr (10, mo y g1))) → τ102.2 (y + 12) = some (.inl (0, 16, me)) → τ102.2 (y + 13) = some (.inl (0, 4096, pb)) → τ102.2 (y + 14) = some (.inl (0, 4096, pw)) → (∀ q, q ≠ y → q ≠ y + 12 → q ≠ y + 13 → q ≠ y + 14 → τ102.2 q = σ.2 q) → Ev Γ 0 0 m_M_beside 0 0 102 [some (.ref y), none, none, none, some (.int (nI l)), none, some (.int (nI t)), some (.int (nI f)), none] [] τ102 Q := by
        intro m102
        induction m102 with
        | zero => intro f _ hm; exact absurd hm (Nat.not_lt_zero _)
        | succ m102 ih102 =>
          intro f hJ102 hm102
          intro τ102 fr m1 m0 m_member m_pairBest m_pairWith kp
          have hM : isM _ y g1 A := ⟨m0, m1⟩
          have hfi : f ≤ i0 := Nat.le_of_not_lt (fun c => by have := hJ102 i0 c; rw [hi0.1] at this; cases this)
          refine Ev.iload rfl rfl ?_
          refine Ev.iload rfl rfl ?_
          refine Ev.ishr rfl ?_
          refine Ev.iconst (v := 1) rfl (by decide) ?_
          refine Ev.iand rfl ?_
          refine Ev.zne (tgt := 118) rfl (by decide) (fun c109 => ?_) (fun c109 => ?_)
          · skip
            have hfb := bit_y (m := t) (k := f) (by omega) (by omega) c109
            have hlo : low t f := ⟨hfb, hJ102⟩
            have hfn : f < n := low_lt hlo htl
            have hwf := hwl f hfn
            obtain ⟨w, hpw, hLW0⟩ := (hTab.2 t ht0 (by omega)).2.2
            have hLW := LW_cg (fun u hu => hBe u (by omega)) hLW0
            obtain ⟨hfw, hwn, -⟩ := LW_lt hLW hlo
            have hcl := clr_lt hlo.1
            rcases Nat.lt_or_ge w n with hwn2 | hwn2
            · rw [show enc n w = nI w from if_neg (by omega)] at hpw
              have hww := hwl w hwn2
              skip
              refine Ev.aload_n rfl rfl ?_
              refine Ev.getf rfl rfl m0 rfl ?_
              refine Ev.iload rfl rfl ?_
              refine Ev.ialdN (k := t) rfl m_pairWith rfl ⟨(by omega), by decide⟩ ?_
              rw [hpw]
              refine Ev.istore rfl rfl rfl ?_
              refine Ev.aload_n rfl rfl ?_
              refine Ev.getf rfl rfl m0 rfl ?_
              refine Ev.iload rfl rfl ?_
              refine Ev.ialdN (k := f) rfl m_member rfl ⟨(by omega), by decide⟩ ?_
              rw [hme f (by omega)]
              refine Ev.iload rfl rfl ?_
              refine Ev.jne (tgt := 156) rfl (by decide) (fun c136 => ?_) (fun c136 => ?_)
              · skip
                have hcl3 := clr_le (clr t f) w
                refine Ev.iload rfl rfl ?_
                refine Ev.zlt (tgt := 181) rfl (by decide) (fun c158 => absurd c158 (nI_pos (by omega))) (fun c158 => ?_)
                refine Ev.aload_n rfl rfl ?_
                refine Ev.getf rfl rfl m0 rfl ?_
                refine Ev.iload rfl rfl ?_
                refine Ev.ialdN (k := w) rfl m_member rfl ⟨(by omega), by decide⟩ ?_
                rw [hme w (by omega)]
                refine Ev.iload rfl rfl ?_
                refine Ev.jne (tgt := 181) rfl (by decide) (fun c170 => ?_) (fun c170 => ?_)
                · skip
                  refine Ev.iload rfl rfl ?_
                  refine Ev.iconst (v := 1) rfl (by decide) ?_
                  refine Ev.iload rfl rfl ?_
                  refine Ev.ishl rfl ?_
                  refine Ev.iconst (v := (-1)) rfl (by decide) ?_
                  refine Ev.ixor rfl ?_
                  refine Ev.iand rfl ?_
                  rw [show (nI t) &&& (((1 : Int32) <<< ((nI f) &&& 31)) ^^^ (-1 : Int32)) = nI (clr t f) from (bclr_nI (s := t) (f := f) (by omega) (by omega))]
                  refine Ev.istore rfl rfl rfl ?_
                  refine Ev.iload rfl rfl ?_
                  refine Ev.zge (tgt := 202) rfl (by decide) (fun c194 => ?_) (fun c194 => absurd c194 (nI_pos (by omega)))
                  refine Ev.iload rfl rfl ?_
                  refine Ev.iconst (v := 1) rfl (by decide) ?_
                  refine Ev.iload rfl rfl ?_
                  refine Ev.ishl rfl ?_
                  refine Ev.iconst (v := (-1)) rfl (by decide) ?_
                  refine Ev.ixor rfl ?_
                  refine Ev.iand rfl ?_
                  rw [show (nI (clr t f)) &&& (((1 : Int32) <<< ((nI w) &&& 31)) ^^^ (-1 : Int32)) = nI (clr (clr t f) w) from (bclr_nI (s := clr t f) (f := w) (by omega) (by omega))]
                  refine Ev.istore rfl rfl rfl ?_
                  refine Ev.goto (tgt := 94) rfl (by decide) ?_
                  exact (ih94 (clr (clr t f) w) (rjs_w hJ94 hlo hLW (fun e => c136 (by rw [← hlp, e])) (fun e => c170 (by rw [← hlp, e])) hwn2) (by omega) τ102 fr m1 m0 m_member m_pairBest m_pairWith kp).fg (gs rfl (gn (gn (gn (gs rfl (gn (gs rfl (gn (gn gz)))))))))
                · skip
                  refine Ev.aload_n rfl rfl ?_
                  refine Ev.getf rfl rfl m0 rfl ?_
                  refine Ev.iload rfl rfl ?_
                  refine Ev.ialdN (k := f) rfl m_member rfl ⟨(by omega), by decide⟩ ?_
                  rw [hme f (by omega)]
                  refine Ev.iret (ty := .int) rfl rfl rfl (Nat.le_refl _) (Nat.le_refl _) ?_
                  have hpf : p = w := hwi p w hpn hwn2 (by rw [hlp]; exact (nI_injL (by omega) (by omega) c170).symm)
                  have eq := Prt_uniq (hJ94.2.2 f (by rw [hpf]; exact Prt_there hlo hLW hwn2)) hq
                  have ev : nI (wh m f) = encW n m r0 := by rw [← eq]; exact (if_neg (by omega)).symm
                  rw [← hQ, ← ev]
                  exact ⟨rfl, fr, g1, me, pb, pw, m0, m_member, m_pairBest, m_pairWith, kp, hpb0⟩
              · skip
                refine Ev.iload rfl rfl ?_
                refine Ev.zge (tgt := 148) rfl (by decide) (fun c141 => ?_) (fun c141 => absurd c141 (nI_pos (by omega)))
                refine Ev.aload_n rfl rfl ?_
                refine Ev.getf rfl rfl m0 rfl ?_
                refine Ev.iload rfl rfl ?_
                refine Ev.ialdN (k := w) rfl m_member rfl ⟨(by omega), by decide⟩ ?_
                rw [hme w (by omega)]
                refine Ev.iret (ty := .int) rfl rfl rfl (Nat.le_refl _) (Nat.le_refl _) ?_
                have hpf : p = f := hwi p f hpn hfn (by rw [hlp]; exact (nI_injL (by omega) (by omega) c136).symm)
                have eq := Prt_uniq (hJ94.2.2 w (by rw [hpf]; exact Prt_here hlo hLW)) hq
                have ev : nI (wh m w) = encW n m r0 := by rw [← eq]; exact (if_neg (by omega)).symm
                rw [← hQ, ← ev]
                exact ⟨rfl, fr, g1, me, pb, pw, m0, m_member, m_pairBest, m_pairWith, kp, hpb0⟩
            · have hwe : w = n := by omega
              rw [show enc n w = -1 from if_pos hwe] at hpw
              skip
              refine Ev.aload_n rfl rfl ?_
              refine Ev.getf rfl rfl m0 rfl ?_
              refine Ev.iload rfl rfl ?_
              refine Ev.ialdN (k := t) rfl m_pairWith rfl ⟨(by omega), by decide⟩ ?_
              rw [hpw]
              refine Ev.istore rfl rfl rfl ?_
              refine Ev.aload_n rfl rfl ?_
              refine Ev.getf rfl rfl m0 rfl ?_
              refine Ev.iload rfl rfl ?_
              refine Ev.ialdN (k := f) rfl m_member rfl ⟨(by omega), by decide⟩ ?_
              rw [hme f (by omega)]
              refine Ev.iload rfl rfl ?_
              refine Ev.jne (tgt := 156) rfl (by decide) (fun c136 => ?_) (fun c136 => ?_)
              · skip
                have hcl3 := clr_le (clr t f) w
                refine Ev.iload rfl rfl ?_
                refine Ev.zlt (tgt := 181) rfl (by decide) (fun c158 => ?_) (fun c158 => absurd (by decide) c158)
                refine Ev.iload rfl rfl ?_
                refine Ev.iconst (v := 1) rfl (by decide) ?_
                refine Ev.iload rfl rfl ?_
                refine Ev.ishl rfl ?_
                refine Ev.iconst (v := (-1)) rfl (by decide) ?_
                refine Ev.ixor rfl ?_
                refine Ev.iand rfl ?_
                rw [show (nI t) &&& (((1 : Int32) <<< ((nI f) &&& 31)) ^^^ (-1 : Int32)) = nI (clr t f) from (bclr_nI (s := t) (f := f) (by omega) (by omega))]
                refine Ev.istore rfl rfl rfl ?_
                refine Ev.iload rfl rfl ?_
                refine Ev.zge (tgt := 202) rfl (by decide) (fun c194 => absurd (by decide) c194) (fun c194 => ?_)
                refine Ev.iload rfl rfl ?_
                refine Ev.goto (tgt := 211) rfl (by decide) ?_
                refine Ev.istore rfl rfl rfl ?_
                refine Ev.goto (tgt := 94) rfl (by decide) ?_
                exact (ih94 (clr t f) (rjs_n hJ94 hlo hLW (fun e => c136 (by rw [← hlp, e])) hpn hwe) (by omega) τ102 fr m1 m0 m_member m_pairBest m_pairWith kp).fg (gs rfl (gn (gn (gn (gs rfl (gn (gs rfl (gn (gn gz)))))))))
              · skip
                refine Ev.iload rfl rfl ?_
                refine Ev.zge (tgt := 148) rfl (by decide) (fun c141 => absurd (by decide) c141) (fun c141 => ?_)
                refine Ev.iconst (v := (-1)) rfl (by decide) ?_
                refine Ev.goto (tgt := 155) rfl (by decide) ?_
                refine Ev.iret (ty := .int) rfl rfl rfl (Nat.le_refl _) (Nat.le_refl _) ?_
                have hpf : p = f := hwi p f hpn hfn (by rw [hlp]; exact (nI_injL (by omega) (by omega) c136).symm)
                have eq := Prt_uniq (hJ94.2.2 w (by rw [hpf]; exact Prt_here hlo hLW)) hq
                have ev : (-1 : Int32) = encW n m r0 := by rw [← eq]; exact (if_pos hwe).symm
                rw [← hQ, ← ev]
                exact ⟨rfl, fr, g1, me, pb, pw, m0, m_member, m_pairBest, m_pairWith, kp, hpb0⟩
          · skip
            have hfb := bit_n (m := t) (k := f) (by omega) (by omega) c109
            refine Ev.iinc (d := 1) rfl rfl rfl (by decide) rfl ?_
            refine Ev.goto (tgt := 102) rfl (by decide) ?_
            exact (ih102 (f + 1) (low_step hJ102 hfb) (by omega) τ102 fr m1 m0 m_member m_pairBest m_pairWith kp).fg (gs rfl (gn (gn (gn (gs rfl (gn (gs rfl (gs (congrArg Value.int (nq_add (a := f) (b := 1) rfl (rfl : (1 : Int32) = nI 1)).symm) (gn gz)))))))))
      exact (hl102 _ 0 (fun j h => absurd h (Nat.not_lt_zero _)) (Nat.lt_succ_self _) τ94 fr m1 m0 m_member m_pairBest m_pairWith kp).fg (gs rfl (gn (gn (gn (gs rfl (gn (gs rfl (gs (congrArg Value.int (rfl : (0 : Int32) = nI 0).symm) (gn gz)))))))))
  exact (hl94 _ ((2 ^ n) - 1) (rjs_0 hpn) (Nat.lt_succ_self _) τ1 fr m1 m0 m_member m_pairBest m_pairWith kp).fg (gs rfl (gn (gn (gn (gs rfl (gn (gs rfl (gn (gn gz)))))))))
end
end
