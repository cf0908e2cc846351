/-! Sitting beside (reference): what two are told together, the tables (walked with invariants, hoare.py). -/
noncomputable section
theorem low_step {t f : Nat} (h : ∀ j, j < f → t.testBit j = false) (hb : t.testBit f = false) : ∀ j, j < f + 1 → t.testBit j = false := by
  intro j hj
  by_cases e : j = f
  · subst e; exact hb
  · exact h j (by omega)
theorem adm_no {n t f i : Nat} (h : i < n) (hb : t.testBit i = false) : ¬ adm n t f i := by
  intro ha
  rcases ha.2 with c | ⟨-, c⟩
  · omega
  · rw [hb] at c; cases c
theorem TabR_x {n : Nat} {v : Nat → Nat → Nat} {t N : Nat} {p w : Nat → Int32} (h : TabR n v t p w) (h2 : t ≤ N) (c : ¬ nI t < nI N) (hN : N < 2 ^ 31) : TabR n v N p w := by
  have e : t = N := by
    rcases Nat.lt_or_ge t N with d | d
    · exact absurd (nI_lt d hN) c
    · omega
  rwa [e] at h
def tvS (S : Sch) (m i j : Nat) : Nat := btv S (wh m i) (wh m j)
theorem bvl_n {n : Nat} {v : Nat → Nat → Nat} {B : Nat → Nat} {s f i : Nat} (h : i = n) : B (clr s f) = bvl n v B s f i := by
  unfold bvl
  rw [if_pos h]
theorem bvl_i {n : Nat} {v : Nat → Nat → Nat} {B : Nat → Nat} {s f i : Nat} (h : i < n) : B (clr (clr s f) i) + v f i = bvl n v B s f i := by
  unfold bvl
  rw [if_neg (by omega)]
  exact Nat.add_comm _ _
/-- what the reference has found of those who sit there -/
def NBR (S : Sch) (m : Nat) (g me pb pw : Nat → Int32) : Prop := g 23 = nI (bcn m S.1) ∧ (∀ j, j < bcn m S.1 → me j = nI (wh m j)) ∧ pb 0 = 0 ∧ (bcn m S.1 ≤ 12 → TabR (bcn m S.1) (tvS S m) (2 ^ bcn m S.1) pb pw)
section
variable {Γ : ex_G} {σ : ex_S} {x q a p y : Nat} {S : Sch} {T : Tol} {P : Pln} {g A : Nat → Int32}
def K_m_tell (S : Sch) (a b : Nat) : Int32 := if (K_abs ((S.2.2 0 a) - (S.2.2 0 b))) = (1 : Int32) then (if (S.2.2 3 a) = (nI b) then ((S.2.2 9 9) + ((2 : Int32) * (S.2.2 9 9))) else (S.2.2 9 9)) else (if (S.2.2 3 a) = (nI b) then ((0 : Int32) + ((2 : Int32) * (S.2.2 9 9))) else (0 : Int32))
theorem m_tellK_ok (hM : isM σ y g A) {s : Nat} (hS : mS A s S) (hs : s + 120 ≤ 4500) (hwS : wS S) {a b : Nat} (ha : a < S.1) (hb : b < S.1) : RetV Γ m_M_tellOf [(.ref y), (.int (nI s)), (.int (nI a)), (.int (nI b))] σ (.int (K_m_tell S a b)) := by
  obtain ⟨m0, m1⟩ := id hM
  have hn16 := hwS.1
  have hn5 := hwS.2.1
  unfold RetV
  generalize hQ : (fun (r : Option Value) (σ' : ex_S) => r = some ((.int (K_m_tell S a b)) : Value) ∧ σ' = σ) = Q
  refine Ret.start pm_249 rfl ?_
  refine Ev.aload_n rfl rfl ?_
  refine Ev.iload_n rfl rfl ?_
  refine Ev.iload_n rfl rfl ?_
  refine Ev.cV2 rfl rfl m0 rfl rfl (by decide) ⟨(Nat.le_refl _), (Nat.le_refl _)⟩ (m_step_ok hM hS hs hwS a (by omega)) ?_
  refine Ev.aload_n rfl rfl ?_
  refine Ev.iload_n rfl rfl ?_
  refine Ev.iload_n rfl rfl ?_
  refine Ev.cV2 rfl rfl m0 rfl rfl (by decide) ⟨(Nat.le_refl _), (Nat.le_refl _)⟩ (m_step_ok hM hS hs hwS b (by omega)) ?_
  refine Ev.isub rfl ?_
  refine Ev.cS1 rfl rfl rfl (by decide) ⟨(Nat.le_refl _), (Nat.le_refl _)⟩ (m_size_ok _) ?_
  refine Ev.iconst (v := 1) rfl (by decide) ?_
  refine Ev.jne (tgt := 32) rfl (by decide) (fun c17 => ?_) (fun c17 => ?_)
  · skip
    refine Ev.iconst (v := 0) rfl (by decide) ?_
    refine Ev.istore rfl rfl rfl ?_
    refine Ev.aload_n rfl rfl ?_
    refine Ev.getf rfl rfl m0 rfl ?_
    refine Ev.iload_n rfl rfl ?_
    refine Ev.bipush (v := 61) rfl (by decide) ?_
    refine Ev.iadd rfl ?_
    refine Ev.iload_n rfl rfl ?_
    refine Ev.iadd rfl ?_
    refine Ev.ialdN (k := s + 61 + a) rfl m1 (nq_to (a := s + 61 + a) (nq_add (a := s + 61) (b := a) (nq_add (a := s) (b := 61) rfl (rfl : (61 : Int32) = nI 61)) rfl) (by omega)) ⟨(by omega), by decide⟩ ?_
    rw [(hS.2.2.2.1 a (by omega)).2.2.2.1]
    refine Ev.iload_n rfl rfl ?_
    refine Ev.jne (tgt := 67) rfl (by decide) (fun c47 => ?_) (fun c47 => ?_)
    · skip
      refine Ev.iload rfl rfl ?_
      refine Ev.iret (ty := .int) rfl rfl rfl (Nat.le_refl _) (Nat.le_refl _) ?_
      rw [← hQ]
      refine ⟨congrArg (fun v => some (Value.int v)) (Eq.symm ?_), rfl⟩
      unfold K_m_tell
      rw [if_neg c17]
      rw [if_neg c47]
    · skip
      refine Ev.iload rfl rfl ?_
      refine Ev.iconst (v := 2) rfl (by decide) ?_
      refine Ev.aload_n rfl rfl ?_
      refine Ev.getf rfl rfl m0 rfl ?_
      refine Ev.iload_n rfl rfl ?_
      refine Ev.bipush (v := 11) rfl (by decide) ?_
      refine Ev.iadd rfl ?_
      refine Ev.ialdN (k := s + 11) rfl m1 (nq_to (a := s + 11) (nq_add (a := s) (b := 11) rfl (rfl : (11 : Int32) = nI 11)) (by omega)) ⟨(by omega), by decide⟩ ?_
      rw [show A (s + 11) = _ from hS.2.2.1 9 (by decide)]
      refine Ev.imul rfl ?_
      refine Ev.iadd rfl ?_
      refine Ev.goto (tgt := 69) rfl (by decide) ?_
      refine Ev.iret (ty := .int) rfl rfl rfl (Nat.le_refl _) (Nat.le_refl _) ?_
      rw [← hQ]
      refine ⟨congrArg (fun v => some (Value.int v)) (Eq.symm ?_), rfl⟩
      unfold K_m_tell
      rw [if_neg c17]
      rw [if_pos c47]
  · skip
    refine Ev.aload_n rfl rfl ?_
    refine Ev.getf rfl rfl m0 rfl ?_
    refine Ev.iload_n rfl rfl ?_
    refine Ev.bipush (v := 11) rfl (by decide) ?_
    refine Ev.iadd rfl ?_
    refine Ev.ialdN (k := s + 11) rfl m1 (nq_to (a := s + 11) (nq_add (a := s) (b := 11) rfl (rfl : (11 : Int32) = nI 11)) (by omega)) ⟨(by omega), by decide⟩ ?_
    rw [show A (s + 11) = _ from hS.2.2.1 9 (by decide)]
    refine Ev.goto (tgt := 33) rfl (by decide) ?_
    refine Ev.istore rfl rfl rfl ?_
    refine Ev.aload_n rfl rfl ?_
    refine Ev.getf rfl rfl m0 rfl ?_
    refine Ev.iload_n rfl rfl ?_
    refine Ev.bipush (v := 61) rfl (by decide) ?_
    refine Ev.iadd rfl ?_
    refine Ev.iload_n rfl rfl ?_
    refine Ev.iadd rfl ?_
    refine Ev.ialdN (k := s + 61 + a) rfl m1 (nq_to (a := s + 61 + a) (nq_add (a := s + 61) (b := a) (nq_add (a := s) (b := 61) rfl (rfl : (61 : Int32) = nI 61)) rfl) (by omega)) ⟨(by omega), by decide⟩ ?_
    rw [(hS.2.2.2.1 a (by omega)).2.2.2.1]
    refine Ev.iload_n rfl rfl ?_
    refine Ev.jne (tgt := 67) rfl (by decide) (fun c47 => ?_) (fun c47 => ?_)
    · skip
      refine Ev.iload rfl rfl ?_
      refine Ev.iret (ty := .int) rfl rfl rfl (Nat.le_refl _) (Nat.le_refl _) ?_
      rw [← hQ]
      refine ⟨congrArg (fun v => some (Value.int v)) (Eq.symm ?_), rfl⟩
      unfold K_m_tell
      rw [if_pos c17]
      rw [if_neg c47]
    · skip
      refine Ev.iload rfl rfl ?_
      refine Ev.iconst (v := 2) rfl (by decide) ?_
      refine Ev.aload_n rfl rfl ?_
      refine Ev.getf rfl rfl m0 rfl ?_
      refine Ev.iload_n rfl rfl ?_
      refine Ev.bipush (v := 11) rfl (by decide) ?_
      refine Ev.iadd rfl ?_
      refine Ev.ialdN (k := s + 11) rfl m1 (nq_to (a := s + 11) (nq_add (a := s) (b := 11) rfl (rfl : (11 : Int32) = nI 11)) (by omega)) ⟨(by omega), by decide⟩ ?_
      rw [show A (s + 11) = _ from hS.2.2.1 9 (by decide)]
      refine Ev.imul rfl ?_
      refine Ev.iadd rfl ?_
      refine Ev.goto (tgt := 69) rfl (by decide) ?_
      refine Ev.iret (ty := .int) rfl rfl rfl (Nat.le_refl _) (Nat.le_refl _) ?_
      rw [← hQ]
      refine ⟨congrArg (fun v => some (Value.int v)) (Eq.symm ?_), rfl⟩
      unfold K_m_tell
      rw [if_pos c17]
      rw [if_pos c47]
theorem tell_tv {S : Sch} (hw : wS S) {a b : Nat} (ha : a < S.1) (hb : b < S.1) : K_m_tell S a b = nI (btv S a b) := by
  have h9 := (tl_cl hw).1
  have two : (2 : Int32) = nI 2 := rfl
  have zero : (0 : Int32) = nI 0 := rfl
  unfold K_m_tell
  have hc := near_m hw ha hb
  by_cases c : near S a b
  · rw [if_pos (hc.mpr c)]
    by_cases d : S.2.2 3 a = nI b
    · rw [if_pos d, h9, two, pk_mul, nI_add]
      unfold btv
      rw [near_y c, mate_y d]
      congr 1
      omega
    · rw [if_neg d, h9]
      unfold btv
      rw [near_y c, mate_n d]
      congr 1
      omega
  · rw [if_neg (fun h => c (hc.mp h))]
    by_cases d : S.2.2 3 a = nI b
    · rw [if_pos d, h9, two, zero, pk_mul, nI_add]
      unfold btv
      rw [near_n c, mate_y d]
      congr 1
      omega
    · rw [if_neg d, zero]
      unfold btv
      rw [near_n c, mate_n d]
      congr 1
      omega
theorem m_tell_ok (hM : isM σ y g A) {s : Nat} (hS : mS A s S) (hs : s + 120 ≤ 4500) (hwS : wS S) {a b : Nat} (ha : a < S.1) (hb : b < S.1) : RetV Γ m_M_tellOf [.ref y, .int (nI s), .int (nI a), .int (nI b)] σ (.int (nI (btv S a b))) := by
  rw [← tell_tv hwS ha hb]
  exact m_tellK_ok hM hS hs hwS ha hb
theorem m_neigh_ok (hM : isM σ y g A) {s : Nat} (hS : mS A s S) (hs : s + 120 ≤ 4500) (hwS : wS S) {v_member : Nat → Int32} (m_member : σ.2 (y + 12) = some (.inl (0, 16, v_member))) {v_pairBest : Nat → Int32} (m_pairBest : σ.2 (y + 13) = some (.inl (0, 4096, v_pairBest))) {v_pairWith : Nat → Int32} (m_pairWith : σ.2 (y + 14) = some (.inl (0, 4096, v_pairWith))) {m : Nat} (hm : m < 2 ^ S.1) (hp0 : v_pairBest 0 = 0) : RetX Γ m_M_neighbours [.ref y, .int (nI s), .int (nI m)] σ y (y + 17) none (fun τ => ∃ g1 me pb pw : Nat → Int32, τ.2 y = some (.inr (.inr (10, mo y g1))) ∧ τ.2 (y + 12) = some (.inl (0, 16, me)) ∧ τ.2 (y + 13) = some (.inl (0, 4096, pb)) ∧ τ.2 (y + 14) = some (.inl (0, 4096, pw)) ∧ (∀ q, q ≠ y → q ≠ y + 12 → q ≠ y + 13 → q ≠ y + 14 → τ.2 q = σ.2 q) ∧ NBR S m g1 me pb pw) := by
  obtain ⟨m0, m1⟩ := id hM
  have hn16 := hwS.1
  have hn5 := hwS.2.1
  have hm16 : m < 65536 := Nat.lt_of_lt_of_le hm (p16 hn16)
  unfold RetX
  generalize hQ : ((fun (r : Option Value) (τ : ex_S) => r = none ∧ frm σ τ y (y + 17) ∧ (fun τ : ex_S => ∃ g1 me pb pw : Nat → Int32, τ.2 y = some (.inr (.inr (10, mo y g1))) ∧ τ.2 (y + 12) = some (.inl (0, 16, me)) ∧ τ.2 (y + 13) = some (.inl (0, 4096, pb)) ∧ τ.2 (y + 14) = some (.inl (0, 4096, pw)) ∧ (∀ q, q ≠ y → q ≠ y + 12 → q ≠ y + 13 → q ≠ y + 14 → τ.2 q = σ.2 q) ∧ NBR S m g1 me pb pw) τ)) = Q
  refine Ret.start pm_250 rfl ?_
  have fr : frm σ σ y (y + 17) := frm.rf
  have kp : (∀ q, q ≠ y → q ≠ y + 12 → q ≠ y + 13 → q ≠ y + 14 → σ.2 q = σ.2 q) := fun _ _ _ _ _ => rfl
  have hM : isM _ y g A := ⟨m0, m1⟩
  refine Ev.aload_n rfl rfl ?_
  refine Ev.iconst (v := 0) rfl (by decide) ?_
  refine Ev.putE rfl rfl m0 rfl rfl rfl (Nat.le_of_ble_eq_true rfl) (fun τ1 f1 q1 => ?_)
  have m0 : τ1.2 y = some (.inr (.inr (10, mo y (upd g 23 (0 : Int32))))) := q1
  have m1 := frm.cell f1 m1 (by omega)
  have m_member := frm.cell f1 m_member (by omega)
  have m_pairBest := frm.cell f1 m_pairBest (by omega)
  have m_pairWith := frm.cell f1 m_pairWith (by omega)
  have kp : (∀ q, q ≠ y → q ≠ y + 12 → q ≠ y + 13 → q ≠ y + 14 → τ1.2 q = σ.2 q) := fun q n0 n1 n2 n3 => (f1.2 q (by omega)).trans (kp q n0 n1 n2 n3)
  have fr := fr.step f1 (by omega) (by omega)
  have hM : isM _ y (upd g 23 (0 : Int32)) A := ⟨m0, m1⟩
  refine Ev.iconst (v := 0) rfl (by decide) ?_
  refine Ev.istore_n rfl rfl rfl ?_
  have hl7 : ∀ (m7 : Nat) (l : Nat) (g7 : (Nat → Int32)) (me7 : (Nat → Int32)), (l ≤ S.1 ∧ g7 23 = nI (bcn m l) ∧ lstd m l me7) → (S.1 - l) < m7 → ∀ τ7 : ex_S, frm σ τ7 y (y + 17) → τ7.2 (y + 1) = some (.inl (0, 4500, A)) → τ7.2 y = some (.inr (.inr (10, mo y g7))) → τ7.2 (y + 12) = some (.inl (0, 16, me7)) → τ7.2 (y + 13) = some (.inl (0, 4096, v_pairBest)) → τ7.2 (y + 14) = some (.inl (0, 4096, v_pairWith)) → (∀ q, q ≠ y → q ≠ y + 12 → q ≠ y + 13 → q ≠ y + 14 → τ7.2 q = σ.2 q) → Ev Γ 0 0 m_M_neighbours 0 0 7 [some (.ref y), some (.int (nI s)), some (.int (nI m)), some (.int (nI l)), none, none, none, none] [] τ7 Q := by
    intro m7
    induction m7 with
    | zero => intro l g7 me7 _ hm; exact absurd hm (Nat.not_lt_zero _)
    | succ m7 ih7 =>
      intro l g7 me7 hJ7 hm7
      intro τ7 fr m1 m0 m_member m_pairBest m_pairWith kp
      have hM : isM _ y g7 A := ⟨m0, m1⟩
      obtain ⟨hlS0, hgm, hls⟩ := hJ7
      have hbl : bcn m l ≤ l := bcn_leN
      refine Ev.iload_n rfl rfl ?_
      refine Ev.aload_n rfl rfl ?_
      refine Ev.getf rfl rfl m0 rfl ?_
      refine Ev.iload_n rfl rfl ?_
      refine Ev.ialdN (k := s) rfl m1 (nq_to (a := s) rfl (by omega)) ⟨(by omega), by decide⟩ ?_
      rw [hS.1]
      refine Ev.jge (tgt := 54) rfl (by decide) (fun c14 => ?_) (fun c14 => ?_)
      · skip
        have hlS : l = S.1 := by
          rcases Nat.lt_or_ge l S.1 with d | d
          · exact absurd (nI_lt d (by omega)) c14
          · omega
        subst hlS
        obtain ⟨n, hn⟩ : ∃ n, bcn m S.1 = n := ⟨_, rfl⟩
        rw [hn] at hgm hbl
        have hme : ∀ j, j < n → me7 j = nI (wh m j) := fun j hj => lstd_at hls (by omega) (by omega)
        have hwl : ∀ j, j < n → wh m j < S.1 := fun j hj => (wh_of (L := S.1) (by omega) (by omega)).2.1
        have hp2 : 2 ^ n ≤ 65536 := Nat.pow_le_pow_right (n := 2) (j := 16) (by decide) (by omega)
        refine Ev.iconst (v := 1) rfl (by decide) ?_
        refine Ev.istore_n rfl rfl rfl ?_
        have hl56 : ∀ (m56 : Nat) (t : Nat) (pb : (Nat → Int32)) (pw : (Nat → Int32)), (0 < t ∧ t ≤ 2 ^ n ∧ TabR n (tvS S m) t pb pw) → (2 ^ n - t) < m56 → ∀ τ56 : ex_S, frm σ τ56 y (y + 17) → τ56.2 (y + 1) = some (.inl (0, 4500, A)) → τ56.2 y = some (.inr (.inr (10, mo y g7))) → τ56.2 (y + 12) = some (.inl (0, 16, me7)) → τ56.2 (y + 13) = some (.inl (0, 4096, pb)) → τ56.2 (y + 14) = some (.inl (0, 4096, pw)) → (∀ q, q ≠ y → q ≠ y + 12 → q ≠ y + 13 → q ≠ y + 14 → τ56.2 q = σ.2 q) → Ev Γ 0 0 m_M_neighbours 0 0 56 [some (.ref y), some (.int (nI s)), none, some (.int (nI t)), none, none, none, none] [] τ56 Q := by
          intro m56
          induction m56 with
          | zero => intro t pb pw _ hm; exact absurd hm (Nat.not_lt_zero _)
          | succ m56 ih56 =>
            intro t pb pw hJ56 hm56
            intro τ56 fr m1 m0 m_member m_pairBest m_pairWith kp
            have hM : isM _ y g7 A := ⟨m0, m1⟩
            obtain ⟨ht0, ht2, hTab⟩ := hJ56
            refine Ev.iload_n rfl rfl ?_
            refine Ev.iconst (v := 1) rfl (by decide) ?_
            refine Ev.aload_n rfl rfl ?_
            refine Ev.getf rfl rfl m0 rfl ?_
            rw [hgm]
            refine Ev.ishl rfl ?_
            rw [show (1 : Int32) <<< ((nI n) &&& 31) = nI (2 ^ n) from (nq_shl rfl (by omega))]
            refine Ev.jge (tgt := 256) rfl (by decide) (fun c63 => ?_) (fun c63 => ?_)
            · skip
              refine Ev.ret rfl rfl (Nat.le_refl _) (Nat.le_refl _) ?_
              have hfull : n ≤ 12 → TabR n (tvS S m) (2 ^ n) pb pw := fun hn12 => by
                first
                | exact TabR_x hTab ht2 c63 (by omega)
                | exact absurd (nI_lt (a := n) (b := 13) (by omega) (by decide)) c72
              rw [← hQ]
              refine ⟨rfl, fr, g7, me7, pb, pw, m0, m_member, m_pairBest, m_pairWith, kp, ?_⟩
              unfold NBR
              rw [hn]
              exact ⟨hgm, hme, hTab.1, hfull⟩
            · skip
              have htl := (nI_ltI (a := t) (b := 2 ^ n) (by omega) (by omega)).mp c63
              refine Ev.aload_n rfl rfl ?_
              refine Ev.getf rfl rfl m0 rfl ?_
              rw [hgm]
              refine Ev.bipush (v := 13) rfl (by decide) ?_
              refine Ev.jge (tgt := 256) rfl (by decide) (fun c72 => ?_) (fun c72 => ?_)
              · skip
                refine Ev.ret rfl rfl (Nat.le_refl _) (Nat.le_refl _) ?_
                have hfull : n ≤ 12 → TabR n (tvS S m) (2 ^ n) pb pw := fun hn12 => by
                  first
                  | exact TabR_x hTab ht2 c63 (by omega)
                  | exact absurd (nI_lt (a := n) (b := 13) (by omega) (by decide)) c72
                rw [← hQ]
                refine ⟨rfl, fr, g7, me7, pb, pw, m0, m_member, m_pairBest, m_pairWith, kp, ?_⟩
                unfold NBR
                rw [hn]
                exact ⟨hgm, hme, hTab.1, hfull⟩
              · skip
                have hn12 : n < 13 := (nI_ltI (a := n) (b := 13) (by omega) (by decide)).mp c72
                have hp12 : 2 ^ n ≤ 4096 := Nat.pow_le_pow_right (n := 2) (j := 12) (by decide) (by omega)
                obtain ⟨i0, hi0⟩ := low_ex ht0
                have hi0n := low_lt hi0 htl
                refine Ev.iconst (v := 0) rfl (by decide) ?_
                refine Ev.istore rfl rfl rfl ?_
                have hl78 : ∀ (m78 : Nat) (f : Nat), (∀ j, j < f → t.testBit j = false) → (i0 + 1 - f) < m78 → ∀ τ78 : ex_S, frm σ τ78 y (y + 17) → τ78.2 (y + 1) = some (.inl (0, 4500, A)) → τ78.2 y = some (.inr (.inr (10, mo y g7))) → τ78.2 (y + 12) = some (.inl (0, 16, me7)) → τ78.2 (y + 13) = some (.inl (0, 4096, pb)) → τ78.2 (y + 14) = some (.inl (0, 4096, pw)) → (∀ q, q ≠ y → q ≠ y + 12 → q ≠ y + 13 → q ≠ y + 14 → τ78.2 q = σ.2 q) → Ev Γ 0 0 m_M_neighbours 0 0 78 [some (.ref y), some (.int (nI s)), none, some (.int (nI t)), some (.int (nI f)), none, none, none] [] τ78 Q := by
                  intro m78
                  induction m78 with
                  | zero => intro f _ hm; exact absurd hm (Nat.not_lt_zero _)
                  | succ m78 ih78 =>
                    intro f hJ78 hm78
                    intro τ78 fr m1 m0 m_member m_pairBest m_pairWith kp
                    have hM : isM _ y g7 A := ⟨m0, m1⟩
                    have hfi : f ≤ i0 := Nat.le_of_not_lt (fun c => by have := hJ78 i0 c; rw [hi0.1] at this; cases this)
                    refine Ev.iload_n rfl rfl ?_
                    refine Ev.iload rfl rfl ?_
                    refine Ev.ishr rfl ?_
                    refine Ev.iconst (v := 1) rfl (by decide) ?_
                    refine Ev.iand rfl ?_
                    refine Ev.zne (tgt := 93) rfl (by decide) (fun c84 => ?_) (fun c84 => ?_)
                    · skip
                      have hfb := bit_y (m := t) (k := f) (by omega) (by omega) c84
                      have hlo : low t f := ⟨hfb, hJ78⟩
                      have hfn : f < n := low_lt hlo htl
                      refine Ev.iload_n rfl rfl ?_
                      refine Ev.iconst (v := 1) rfl (by decide) ?_
                      refine Ev.iload rfl rfl ?_
                      refine Ev.ishl rfl ?_
                      refine Ev.iconst (v := (-1)) rfl (by decide) ?_
                      refine Ev.ixor rfl ?_
                      refine Ev.iand rfl ?_
                      rw [show (nI t) &&& (((1 : Int32) <<< ((nI f) &&& 31)) ^^^ (-1 : Int32)) = nI (clr t f) from (bclr_nI (s := t) (f := f) (by omega) (by omega))]
                      refine Ev.istore rfl rfl rfl ?_
                      have hcl := clr_lt hlo.1
                      refine Ev.aload_n rfl rfl ?_
                      refine Ev.getf rfl rfl m0 rfl ?_
                      refine Ev.iload_n rfl rfl ?_
                      refine Ev.iconst (v := (-1)) rfl (by decide) ?_
                      refine Ev.iastE (k := t) rfl m_pairBest rfl ⟨(by omega), by decide⟩ (fun τ2 f1 m_pairBest => ?_)
                      have m1 := frm.cell f1 m1 (by omega)
                      have m0 := frm.cell f1 m0 (by omega)
                      have m_member := frm.cell f1 m_member (by omega)
                      have m_pairWith := frm.cell f1 m_pairWith (by omega)
                      have kp : (∀ q, q ≠ y → q ≠ y + 12 → q ≠ y + 13 → q ≠ y + 14 → τ2.2 q = σ.2 q) := fun q n0 n1 n2 n3 => (f1.2 q (by omega)).trans (kp q n0 n1 n2 n3)
                      have fr := fr.step f1 (by omega) (by omega)
                      have hM : isM _ y g7 A := ⟨m0, m1⟩
                      refine Ev.iload rfl rfl ?_
                      refine Ev.iconst (v := 1) rfl (by decide) ?_
                      refine Ev.iadd rfl ?_
                      refine Ev.istore rfl rfl rfl ?_
                      have hl116 : ∀ (m116 : Nat) (i : Nat) (pb1 : (Nat → Int32)) (pw1 : (Nat → Int32)), (f < i ∧ i ≤ n + 1 ∧ (∀ q, q ≠ t → pb1 q = pb q ∧ pw1 q = pw q) ∧ bst n (tvS S m) (vf pb) t f i (pb1 t) (pw1 t)) → (n + 1 - i) < m116 → ∀ τ116 : ex_S, frm σ τ116 y (y + 17) → τ116.2 (y + 1) = some (.inl (0, 4500, A)) → τ116.2 y = some (.inr (.inr (10, mo y g7))) → τ116.2 (y + 12) = some (.inl (0, 16, me7)) → τ116.2 (y + 13) = some (.inl (0, 4096, pb1)) → τ116.2 (y + 14) = some (.inl (0, 4096, pw1)) → (∀ q, q ≠ y → q ≠ y + 12 → q ≠ y + 13 → q ≠ y + 14 → τ116.2 q = σ.2 q) → Ev Γ 0 0 m_M_neighbours 0 0 116 [some (.ref y), some (.int (nI s)), none, some (.int (nI t)), some (.int (nI f)), some (.int (nI (clr t f))), some (.int (nI i)), none] [] τ116 Q := by
                        intro m116
                        induction m116 with
                        | zero => intro i pb1 pw1 _ hm; exact absurd hm (Nat.not_lt_zero _)
                        | succ m116 ih116 =>
                          intro i pb1 pw1 hJ116 hm116
                          intro τ116 fr m1 m0 m_member m_pairBest m_pairWith kp
                          have hM : isM _ y g7 A := ⟨m0, m1⟩
                          obtain ⟨hfi1, hin, hoff, hbst⟩ := hJ116
                          have hrd : ∀ q, q < t → pb1 q = nI (vf pb q) := fun q hq => (hoff q (by omega)).1.trans (hTab.ok hq).1
                          have hvb : ∀ j, bvl n (tvS S m) (vf pb) t f j ≤ 297 * t := fun j => bvl_le (fun a b => tv_le hwS _ _) hlo (fun q hq => hTab.ok hq)
                          refine Ev.iload rfl rfl ?_
                          refine Ev.aload_n rfl rfl ?_
                          refine Ev.getf rfl rfl m0 rfl ?_
                          rw [hgm]
                          refine Ev.jgt (tgt := 250) rfl (by decide) (fun c122 => ?_) (fun c122 => ?_)
                          · skip
                            have hi2 : n < i := (nI_ltI (a := n) (b := i) (by omega) (by omega)).mp c122
                            obtain ⟨M, q, e1, e2, e3, e4, e5, e6⟩ := bst_end (by rw [show i = n + 1 by omega] at hbst; exact hbst) hlo hfn (fun j => Nat.lt_of_le_of_lt (hvb j) (by omega))
                            refine Ev.iinc (d := 1) rfl rfl rfl (by decide) rfl ?_
                            refine Ev.goto (tgt := 56) rfl (by decide) ?_
                            exact (ih56 (t + 1) pb1 pw1 (⟨by omega, by omega, TabR_up hTab ht0 (by omega) hoff (by rw [e4]; exact hvb q) e1 e2 e3 ⟨f, hlo, e5, e4.symm, e6⟩⟩) (by omega) τ116 fr m1 m0 m_member m_pairBest m_pairWith kp).fg (gs rfl (gs rfl (gn (gs (congrArg Value.int (nq_add (a := t) (b := 1) rfl (rfl : (1 : Int32) = nI 1)).symm) (gn (gn (gn (gn gz))))))))
                          · skip
                            have hi1 : i ≤ n := Nat.le_of_not_lt (fun h => c122 (nI_lt h (by omega)))
                            refine Ev.iload rfl rfl ?_
                            refine Ev.aload_n rfl rfl ?_
                            refine Ev.getf rfl rfl m0 rfl ?_
                            rw [hgm]
                            refine Ev.jge (tgt := 146) rfl (by decide) (fun c131 => ?_) (fun c131 => ?_)
                            · skip
                              have hin2 : i = n := by
                                rcases Nat.lt_or_ge i n with d | d
                                · exact absurd (nI_lt d (by omega)) c131
                                · omega
                              have hadm : adm n t f i := ⟨hfi1, Or.inl hin2⟩
                              have hX : vf pb (clr t f) = bvl n (tvS S m) (vf pb) t f i := bvl_n hin2
                              have henc : enc n i = -1 := if_pos hin2
                              refine Ev.iload rfl rfl ?_
                              refine Ev.aload_n rfl rfl ?_
                              refine Ev.getf rfl rfl m0 rfl ?_
                              rw [hgm]
                              refine Ev.jne (tgt := 165) rfl (by decide) (fun c152 => absurd (congrArg nI hin2) c152) (fun c152 => ?_)
                              refine Ev.aload_n rfl rfl ?_
                              refine Ev.getf rfl rfl m0 rfl ?_
                              refine Ev.iload rfl rfl ?_
                              refine Ev.ialdN (k := clr t f) rfl m_pairBest rfl ⟨(by omega), by decide⟩ ?_
                              rw [hrd (clr t f) (by omega)]
                              refine Ev.goto (tgt := 199) rfl (by decide) ?_
                              refine Ev.istore rfl rfl rfl ?_
                              refine Ev.iload rfl rfl ?_
                              refine Ev.aload_n rfl rfl ?_
                              refine Ev.getf rfl rfl m0 rfl ?_
                              refine Ev.iload_n rfl rfl ?_
                              refine Ev.ialdN (k := t) rfl m_pairBest rfl ⟨(by omega), by decide⟩ ?_
                              refine Ev.jgt (tgt := 215) rfl (by decide) (fun c209 => ?_) (fun c209 => ?_)
                              · skip
                                refine Ev.aload_n rfl rfl ?_
                                refine Ev.getf rfl rfl m0 rfl ?_
                                refine Ev.iload_n rfl rfl ?_
                                refine Ev.iload rfl rfl ?_
                                refine Ev.iastE (k := t) rfl m_pairBest rfl ⟨(by omega), by decide⟩ (fun τ3 f1 m_pairBest => ?_)
                                have m1 := frm.cell f1 m1 (by omega)
                                have m0 := frm.cell f1 m0 (by omega)
                                have m_member := frm.cell f1 m_member (by omega)
                                have m_pairWith := frm.cell f1 m_pairWith (by omega)
                                have kp : (∀ q, q ≠ y → q ≠ y + 12 → q ≠ y + 13 → q ≠ y + 14 → τ3.2 q = σ.2 q) := fun q n0 n1 n2 n3 => (f1.2 q (by omega)).trans (kp q n0 n1 n2 n3)
                                have fr := fr.step f1 (by omega) (by omega)
                                have hM : isM _ y g7 A := ⟨m0, m1⟩
                                refine Ev.aload_n rfl rfl ?_
                                refine Ev.getf rfl rfl m0 rfl ?_
                                refine Ev.iload_n rfl rfl ?_
                                refine Ev.iload rfl rfl ?_
                                refine Ev.aload_n rfl rfl ?_
                                refine Ev.getf rfl rfl m0 rfl ?_
                                rw [hgm]
                                refine Ev.jne (tgt := 241) rfl (by decide) (fun c234 => absurd (congrArg nI hin2) c234) (fun c234 => ?_)
                                refine Ev.iconst (v := (-1)) rfl (by decide) ?_
                                refine Ev.goto (tgt := 243) rfl (by decide) ?_
                                refine Ev.iastE (k := t) rfl m_pairWith rfl ⟨(by omega), by decide⟩ (fun τ4 f1 m_pairWith => ?_)
                                have m1 := frm.cell f1 m1 (by omega)
                                have m0 := frm.cell f1 m0 (by omega)
                                have m_member := frm.cell f1 m_member (by omega)
                                have m_pairBest := frm.cell f1 m_pairBest (by omega)
                                have kp : (∀ q, q ≠ y → q ≠ y + 12 → q ≠ y + 13 → q ≠ y + 14 → τ4.2 q = σ.2 q) := fun q n0 n1 n2 n3 => (f1.2 q (by omega)).trans (kp q n0 n1 n2 n3)
                                have fr := fr.step f1 (by omega) (by omega)
                                have hM : isM _ y g7 A := ⟨m0, m1⟩
                                refine Ev.iinc (d := 1) rfl rfl rfl (by decide) rfl ?_
                                refine Ev.goto (tgt := 116) rfl (by decide) ?_
                                exact (ih116 (i + 1) (upd pb1 t (nI (vf pb (clr t f)))) (upd pw1 t (-1 : Int32)) (⟨by omega, by omega, fun q hq => ⟨(pk_un hq).trans (hoff q hq).1, (pk_un hq).trans (hoff q hq).2⟩, by have h := bst_up hbst hadm (by rw [← hX]; exact c209) (Nat.lt_of_le_of_lt (hvb i) (by omega)); rw [← hX, henc] at h; rw [pk_us, pk_us]; exact h⟩) (by omega) τ4 fr m1 m0 m_member m_pairBest m_pairWith kp).fg (gs rfl (gs rfl (gn (gs rfl (gs rfl (gs rfl (gs (congrArg Value.int (nq_add (a := i) (b := 1) rfl (rfl : (1 : Int32) = nI 1)).symm) (gn gz))))))))
                              · skip
                                refine Ev.goto (tgt := 244) rfl (by decide) ?_
                                refine Ev.iinc (d := 1) rfl rfl rfl (by decide) rfl ?_
                                refine Ev.goto (tgt := 116) rfl (by decide) ?_
                                exact (ih116 (i + 1) pb1 pw1 (⟨by omega, by omega, hoff, bst_skip hbst (Or.inr (by rw [← hX]; exact c209)) (Nat.lt_of_le_of_lt (hvb i) (by omega))⟩) (by omega) τ116 fr m1 m0 m_member m_pairBest m_pairWith kp).fg (gs rfl (gs rfl (gn (gs rfl (gs rfl (gs rfl (gs (congrArg Value.int (nq_add (a := i) (b := 1) rfl (rfl : (1 : Int32) = nI 1)).symm) (gn gz))))))))
                            · skip
                              have hilt := (nI_ltI (a := i) (b := n) (by omega) (by omega)).mp c131
                              refine Ev.iload_n rfl rfl ?_
                              refine Ev.iload rfl rfl ?_
                              refine Ev.ishr rfl ?_
                              refine Ev.iconst (v := 1) rfl (by decide) ?_
                              refine Ev.iand rfl ?_
                              refine Ev.zne (tgt := 146) rfl (by decide) (fun c140 => ?_) (fun c140 => ?_)
                              · skip
                                have hib := bit_y (m := t) (k := i) (by omega) (by omega) c140
                                have hadm : adm n t f i := ⟨hfi1, Or.inr ⟨hilt, hib⟩⟩
                                have hwf := hwl f (by omega)
                                have hwi := hwl i (by omega)
                                have hcl2 := clr_le (clr t f) i
                                have hX : vf pb (clr (clr t f) i) + btv S (wh m f) (wh m i) = bvl n (tvS S m) (vf pb) t f i := bvl_i (v := tvS S m) hilt
                                have henc : enc n i = nI i := if_neg (by omega)
                                refine Ev.iload rfl rfl ?_
                                refine Ev.aload_n rfl rfl ?_
                                refine Ev.getf rfl rfl m0 rfl ?_
                                rw [hgm]
                                refine Ev.jne (tgt := 165) rfl (by decide) (fun c152 => ?_) (fun c152 => absurd (nI_injL (by omega) (by omega) c152) (by omega))
                                refine Ev.aload_n rfl rfl ?_
                                refine Ev.getf rfl rfl m0 rfl ?_
                                refine Ev.iload rfl rfl ?_
                                refine Ev.iconst (v := 1) rfl (by decide) ?_
                                refine Ev.iload rfl rfl ?_
                                refine Ev.ishl rfl ?_
                                refine Ev.iconst (v := (-1)) rfl (by decide) ?_
                                refine Ev.ixor rfl ?_
                                refine Ev.iand rfl ?_
                                rw [show (nI (clr t f)) &&& (((1 : Int32) <<< ((nI i) &&& 31)) ^^^ (-1 : Int32)) = nI (clr (clr t f) i) from (bclr_nI (s := clr t f) (f := i) (by omega) (by omega))]
                                refine Ev.ialdN (k := clr (clr t f) i) rfl m_pairBest rfl ⟨(by omega), by decide⟩ ?_
                                rw [hrd (clr (clr t f) i) (by omega)]
                                refine Ev.aload_n rfl rfl ?_
                                refine Ev.iload_n rfl rfl ?_
                                refine Ev.aload_n rfl rfl ?_
                                refine Ev.getf rfl rfl m0 rfl ?_
                                refine Ev.iload rfl rfl ?_
                                refine Ev.ialdN (k := f) rfl m_member rfl ⟨(by omega), by decide⟩ ?_
                                rw [hme f (by omega)]
                                refine Ev.aload_n rfl rfl ?_
                                refine Ev.getf rfl rfl m0 rfl ?_
                                refine Ev.iload rfl rfl ?_
                                refine Ev.ialdN (k := i) rfl m_member rfl ⟨(by omega), by decide⟩ ?_
                                rw [hme i (by omega)]
                                refine Ev.cV3 rfl rfl m0 rfl rfl (by decide) ⟨(Nat.le_refl _), (Nat.le_refl _)⟩ (m_tell_ok hM hS hs hwS hwf hwi) ?_
                                refine Ev.iadd rfl ?_
                                rw [show (nI (vf pb (clr (clr t f) i))) + (nI (btv S (wh m f) (wh m i))) = nI (vf pb (clr (clr t f) i) + (btv S (wh m f) (wh m i))) from (nq_add (a := vf pb (clr (clr t f) i)) (b := btv S (wh m f) (wh m i)) rfl rfl)]
                                refine Ev.istore rfl rfl rfl ?_
                                refine Ev.iload rfl rfl ?_
                                refine Ev.aload_n rfl rfl ?_
                                refine Ev.getf rfl rfl m0 rfl ?_
                                refine Ev.iload_n rfl rfl ?_
                                refine Ev.ialdN (k := t) rfl m_pairBest rfl ⟨(by omega), by decide⟩ ?_
                                refine Ev.jgt (tgt := 215) rfl (by decide) (fun c209 => ?_) (fun c209 => ?_)
                                · skip
                                  refine Ev.aload_n rfl rfl ?_
                                  refine Ev.getf rfl rfl m0 rfl ?_
                                  refine Ev.iload_n rfl rfl ?_
                                  refine Ev.iload rfl rfl ?_
                                  refine Ev.iastE (k := t) rfl m_pairBest rfl ⟨(by omega), by decide⟩ (fun τ5 f1 m_pairBest => ?_)
                                  have m1 := frm.cell f1 m1 (by omega)
                                  have m0 := frm.cell f1 m0 (by omega)
                                  have m_member := frm.cell f1 m_member (by omega)
                                  have m_pairWith := frm.cell f1 m_pairWith (by omega)
                                  have kp : (∀ q, q ≠ y → q ≠ y + 12 → q ≠ y + 13 → q ≠ y + 14 → τ5.2 q = σ.2 q) := fun q n0 n1 n2 n3 => (f1.2 q (by omega)).trans (kp q n0 n1 n2 n3)
                                  have fr := fr.step f1 (by omega) (by omega)
                                  have hM : isM _ y g7 A := ⟨m0, m1⟩
                                  refine Ev.aload_n rfl rfl ?_
                                  refine Ev.getf rfl rfl m0 rfl ?_
                                  refine Ev.iload_n rfl rfl ?_
                                  refine Ev.iload rfl rfl ?_
                                  refine Ev.aload_n rfl rfl ?_
                                  refine Ev.getf rfl rfl m0 rfl ?_
                                  rw [hgm]
                                  refine Ev.jne (tgt := 241) rfl (by decide) (fun c234 => ?_) (fun c234 => absurd (nI_injL (by omega) (by omega) c234) (by omega))
                                  refine Ev.iload rfl rfl ?_
                                  refine Ev.iastE (k := t) rfl m_pairWith rfl ⟨(by omega), by decide⟩ (fun τ6 f1 m_pairWith => ?_)
                                  have m1 := frm.cell f1 m1 (by omega)
                                  have m0 := frm.cell f1 m0 (by omega)
                                  have m_member := frm.cell f1 m_member (by omega)
                                  have m_pairBest := frm.cell f1 m_pairBest (by omega)
                                  have kp : (∀ q, q ≠ y → q ≠ y + 12 → q ≠ y + 13 → q ≠ y + 14 → τ6.2 q = σ.2 q) := fun q n0 n1 n2 n3 => (f1.2 q (by omega)).trans (kp q n0 n1 n2 n3)
                                  have fr := fr.step f1 (by omega) (by omega)
                                  have hM : isM _ y g7 A := ⟨m0, m1⟩
                                  refine Ev.iinc (d := 1) rfl rfl rfl (by decide) rfl ?_
                                  refine Ev.goto (tgt := 116) rfl (by decide) ?_
                                  exact (ih116 (i + 1) (upd pb1 t (nI (vf pb (clr (clr t f) i) + (btv S (wh m f) (wh m i))))) (upd pw1 t (nI i)) (⟨by omega, by omega, fun q hq => ⟨(pk_un hq).trans (hoff q hq).1, (pk_un hq).trans (hoff q hq).2⟩, by have h := bst_up hbst hadm (by rw [← hX]; exact c209) (Nat.lt_of_le_of_lt (hvb i) (by omega)); rw [← hX, henc] at h; rw [pk_us, pk_us]; exact h⟩) (by omega) τ6 fr m1 m0 m_member m_pairBest m_pairWith kp).fg (gs rfl (gs rfl (gn (gs rfl (gs rfl (gs rfl (gs (congrArg Value.int (nq_add (a := i) (b := 1) rfl (rfl : (1 : Int32) = nI 1)).symm) (gn gz))))))))
                                · skip
                                  refine Ev.goto (tgt := 244) rfl (by decide) ?_
                                  refine Ev.iinc (d := 1) rfl rfl rfl (by decide) rfl ?_
                                  refine Ev.goto (tgt := 116) rfl (by decide) ?_
                                  exact (ih116 (i + 1) pb1 pw1 (⟨by omega, by omega, hoff, bst_skip hbst (Or.inr (by rw [← hX]; exact c209)) (Nat.lt_of_le_of_lt (hvb i) (by omega))⟩) (by omega) τ116 fr m1 m0 m_member m_pairBest m_pairWith kp).fg (gs rfl (gs rfl (gn (gs rfl (gs rfl (gs rfl (gs (congrArg Value.int (nq_add (a := i) (b := 1) rfl (rfl : (1 : Int32) = nI 1)).symm) (gn gz))))))))
                              · skip
                                refine Ev.goto (tgt := 244) rfl (by decide) ?_
                                refine Ev.iinc (d := 1) rfl rfl rfl (by decide) rfl ?_
                                refine Ev.goto (tgt := 116) rfl (by decide) ?_
                                exact (ih116 (i + 1) pb1 pw1 (⟨by omega, by omega, hoff, bst_skip hbst (Or.inl (adm_no hilt (bit_n (m := t) (k := i) (by omega) (by omega) c140))) (Nat.lt_of_le_of_lt (hvb i) (by omega))⟩) (by omega) τ116 fr m1 m0 m_member m_pairBest m_pairWith kp).fg (gs rfl (gs rfl (gn (gs rfl (gs rfl (gs rfl (gs (congrArg Value.int (nq_add (a := i) (b := 1) rfl (rfl : (1 : Int32) = nI 1)).symm) (gn gz))))))))
                      exact (hl116 _ (f + 1) (upd pb t (-1 : Int32)) pw (⟨Nat.lt_succ_self _, by omega, fun q hq => ⟨pk_un hq, rfl⟩, by rw [pk_us]; exact bst_0⟩) (Nat.lt_succ_self _) τ2 fr m1 m0 m_member m_pairBest m_pairWith kp).fg (gs rfl (gs rfl (gn (gs rfl (gs rfl (gs rfl (gs (congrArg Value.int (nq_add (a := f) (b := 1) rfl (rfl : (1 : Int32) = nI 1)).symm) (gn gz))))))))
                    · skip
                      have hfb := bit_n (m := t) (k := f) (by omega) (by omega) c84
                      refine Ev.iinc (d := 1) rfl rfl rfl (by decide) rfl ?_
                      refine Ev.goto (tgt := 78) rfl (by decide) ?_
                      exact (ih78 (f + 1) (low_step hJ78 hfb) (by omega) τ78 fr m1 m0 m_member m_pairBest m_pairWith kp).fg (gs rfl (gs rfl (gn (gs rfl (gs (congrArg Value.int (nq_add (a := f) (b := 1) rfl (rfl : (1 : Int32) = nI 1)).symm) (gn (gn (gn gz))))))))
                exact (hl78 _ 0 (fun j h => absurd h (Nat.not_lt_zero _)) (Nat.lt_succ_self _) τ56 fr m1 m0 m_member m_pairBest m_pairWith kp).fg (gs rfl (gs rfl (gn (gs rfl (gs (congrArg Value.int (rfl : (0 : Int32) = nI 0).symm) (gn (gn (gn gz))))))))
        exact (hl56 _ 1 v_pairBest v_pairWith (⟨Nat.lt_succ_self _, Nat.two_pow_pos n, TabR_0 hp0⟩) (Nat.lt_succ_self _) τ7 fr m1 m0 m_member m_pairBest m_pairWith kp).fg (gs rfl (gs rfl (gn (gs (congrArg Value.int (rfl : (1 : Int32) = nI 1).symm) (gn (gn (gn (gn gz))))))))
      · skip
        have hlt := (nI_ltI (a := l) (b := S.1) (by omega) (by omega)).mp c14
        refine Ev.iload_n rfl rfl ?_
        refine Ev.iload_n rfl rfl ?_
        refine Ev.ishr rfl ?_
        refine Ev.iconst (v := 1) rfl (by decide) ?_
        refine Ev.iand rfl ?_
        refine Ev.zne (tgt := 28) rfl (by decide) (fun c22 => ?_) (fun c22 => ?_)
        · skip
          have hb := bit_y (m := m) (k := l) (by omega) (by omega) c22
          refine Ev.aload_n rfl rfl ?_
          refine Ev.getf rfl rfl m0 rfl ?_
          refine Ev.aload_n rfl rfl ?_
          refine Ev.getf rfl rfl m0 rfl ?_
          rw [hgm]
          refine Ev.iload_n rfl rfl ?_
          refine Ev.iastE (k := bcn m l) rfl m_member rfl ⟨(by omega), by decide⟩ (fun τ7 f1 m_member => ?_)
          have m1 := frm.cell f1 m1 (by omega)
          have m0 := frm.cell f1 m0 (by omega)
          have m_pairBest := frm.cell f1 m_pairBest (by omega)
          have m_pairWith := frm.cell f1 m_pairWith (by omega)
          have kp : (∀ q, q ≠ y → q ≠ y + 12 → q ≠ y + 13 → q ≠ y + 14 → τ7.2 q = σ.2 q) := fun q n0 n1 n2 n3 => (f1.2 q (by omega)).trans (kp q n0 n1 n2 n3)
          have fr := fr.step f1 (by omega) (by omega)
          have hM : isM _ y g7 A := ⟨m0, m1⟩
          refine Ev.aload_n rfl rfl ?_
          refine Ev.dup rfl rfl ?_
          refine Ev.getf rfl rfl m0 rfl ?_
          rw [hgm]
          refine Ev.iconst (v := 1) rfl (by decide) ?_
          refine Ev.iadd rfl ?_
          rw [show (nI (bcn m l)) + (1 : Int32) = nI (bcn m l + 1) from (nq_add (a := bcn m l) (b := 1) rfl (rfl : (1 : Int32) = nI 1))]
          refine Ev.putE rfl rfl m0 rfl rfl rfl (Nat.le_of_ble_eq_true rfl) (fun τ8 f1 q1 => ?_)
          have m0 : τ8.2 y = some (.inr (.inr (10, mo y (upd g7 23 (nI (bcn m l + 1)))))) := q1
          have m1 := frm.cell f1 m1 (by omega)
          have m_member := frm.cell f1 m_member (by omega)
          have m_pairBest := frm.cell f1 m_pairBest (by omega)
          have m_pairWith := frm.cell f1 m_pairWith (by omega)
          have kp : (∀ q, q ≠ y → q ≠ y + 12 → q ≠ y + 13 → q ≠ y + 14 → τ8.2 q = σ.2 q) := fun q n0 n1 n2 n3 => (f1.2 q (by omega)).trans (kp q n0 n1 n2 n3)
          have fr := fr.step f1 (by omega) (by omega)
          have hM : isM _ y (upd g7 23 (nI (bcn m l + 1))) A := ⟨m0, m1⟩
          refine Ev.iinc (d := 1) rfl rfl rfl (by decide) rfl ?_
          refine Ev.goto (tgt := 7) rfl (by decide) ?_
          exact (ih7 (l + 1) (upd g7 23 (nI (bcn m l + 1))) (upd me7 (bcn m l) (nI l)) (⟨by omega, pk_us.trans (by rw [bcn_s1 hb]), lstd_y hls⟩) (by omega) τ8 fr m1 m0 m_member m_pairBest m_pairWith kp).fg (gs rfl (gs rfl (gs rfl (gs (congrArg Value.int (nq_add (a := l) (b := 1) rfl (rfl : (1 : Int32) = nI 1)).symm) (gn (gn (gn (gn gz))))))))
        · skip
          have hb : ¬ m.testBit l = true := by rw [bit_n (m := m) (k := l) (by omega) (by omega) c22]; decide
          refine Ev.goto (tgt := 48) rfl (by decide) ?_
          refine Ev.iinc (d := 1) rfl rfl rfl (by decide) rfl ?_
          refine Ev.goto (tgt := 7) rfl (by decide) ?_
          exact (ih7 (l + 1) g7 me7 (⟨by omega, by rw [bcn_s0 hb]; exact hgm, lstd_n hls hb⟩) (by omega) τ7 fr m1 m0 m_member m_pairBest m_pairWith kp).fg (gs rfl (gs rfl (gs rfl (gs (congrArg Value.int (nq_add (a := l) (b := 1) rfl (rfl : (1 : Int32) = nI 1)).symm) (gn (gn (gn (gn gz))))))))
  exact (hl7 _ 0 (upd g 23 (0 : Int32)) v_member (⟨Nat.zero_le _, pk_us.trans (show (0 : Int32) = nI (bcn m 0) from rfl), lstd_0⟩) (Nat.lt_succ_self _) τ1 fr m1 m0 m_member m_pairBest m_pairWith kp).fg (gs rfl (gs rfl (gs rfl (gs (congrArg Value.int (rfl : (0 : Int32) = nI 0).symm) (gn (gn (gn (gn gz))))))))
end
end
