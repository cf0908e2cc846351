/-! busy, test, whom on both sides; forgetting locals. -/
noncomputable section
/-- L says no more than L' does -/
def ex_ge : ex_L → ex_L → Prop
  | [], [] => True
  | none :: r, _ :: r' => ex_ge r r'
  | some v :: r, some v' :: r' => v = v' ∧ ex_ge r r'
  | _, _ => False
theorem ex_ge.at : ∀ {L L' : ex_L}, ex_ge L L' → L.length = L'.length ∧ ∀ (i : Nat) (v : Value), L[i]? = some (some v) → L'[i]? = some (some v)
  | [], [], _ => ⟨rfl, fun i v h => by simp at h⟩
  | none :: r, w :: r', h => by
    obtain ⟨a, b⟩ := ex_ge.at (L := r) (L' := r') h
    refine ⟨by simp [a], fun i v hi => ?_⟩
    cases i with
    | zero => simp at hi
    | succ i => simpa using b i v (by simpa using hi)
  | some v :: r, some v' :: r', h => by
    obtain ⟨rfl, h⟩ := h
    obtain ⟨a, b⟩ := ex_ge.at (L := r) (L' := r') h
    refine ⟨by simp [a], fun i v hi => ?_⟩
    cases i with
    | zero => simpa using hi
    | succ i => simpa using b i v (by simpa using hi)
theorem ex_Lo.fg {ls : Array Slot} {L L' : ex_L} (h : ex_Lo ls L') (g : ex_ge L L') : ex_Lo ls L := by
  obtain ⟨a, b⟩ := g.at
  refine ⟨by rw [a]; exact h.1, h.2.1, fun q hq => ?_⟩
  obtain ⟨j, w⟩ := q
  have hj := ((ex_lv_mem _ 0 j w).mp hq).2
  exact h.at (b j w (by simpa using hj))
theorem Ev.fg {Γ : ex_G} {RC RS mi cells slots pc : Nat} {L L' : ex_L} {st : List Value} {σ : ex_S} {Q : Option Value → ex_S → Prop} (h : Ev Γ RC RS mi cells slots pc L st σ Q) (g : ex_ge L L') : Ev Γ RC RS mi cells slots pc L' st σ Q := by
  intro p l e R s m args below meth c H locs ls Z X r1 r2 hM hS hL hn hZ
  exact h p l e R s m args below meth c H locs ls Z X r1 r2 hM hS (hL.fg g) (by rw [g.at.1]; exact hn) hZ
theorem K_max_le (x y : Int32) : K_max x y = if y ≤ x then x else y := by
  unfold K_max
  by_cases h : y ≤ x
  · rw [if_pos h, if_neg (fun q => gt_le.mpr q h)]
  · rw [if_neg h, if_pos (gt_le.mp h)]
def K_busy (S : Sch) (P : Pln) (t : Int32) : Int32 := match ixd t S.2.1 with
  | none => -1
  | some q => K_bc (K_evs P t &&& S.2.2 5 q)
theorem hasT_no {S : Sch} {l : Int32} (h : l < 0 ∨ nI S.2.1 ≤ l) : K_hasT S l = 0 := by
  unfold K_hasT
  by_cases h0 : l < 0
  · rw [if_pos h0]
  · rw [if_neg h0, if_pos (h.resolve_left h0)]
theorem hasT_yes {S : Sch} {l : Nat} (h : l < S.2.1) (hn : S.2.1 ≤ 5) : K_hasT S (nI l) = 1 := by
  unfold K_hasT
  rw [if_neg (nI_pos (by omega)), if_neg (nI_ge h (by omega))]
theorem and_small (x : Int32) {d : Nat} (hd : d < 65536) : ∃ w, w < 65536 ∧ x &&& nI d = nI w := by
  have e : x = nI x.toBitVec.toNat := by
    apply Int32.toBitVec_inj.mp
    apply BitVec.eq_of_toNat_eq
    simp [nI]
  rw [e, and_nI x.toBitVec.isLt (by omega)]
  exact ⟨_, Nat.lt_of_le_of_lt Nat.and_le_right hd, rfl⟩
def F_test (S : Sch) (P : Pln) (l k : Nat) (z : Int32 × Int32 × Int32) : Int32 × Int32 × Int32 :=
  if K_can S (P.2 k) (nI l) = 0 then z else (K_max z.1 ((100 - S.2.2 4 l) * K_alone S (P.2 k) (S.2.2 0 l) + S.2.2 4 l * K_alone S (P.2 k) (S.2.2 0 l + 1)), K_max z.2.1 (K_alone S (P.2 k) (S.2.2 0 l)), K_max z.2.2 (K_alone S (P.2 k) (S.2.2 0 l + 1)))
def K_te3 (S : Sch) (P : Pln) (l : Nat) : Int32 × Int32 × Int32 := fo (F_test S P l) P.1 0 (-1, 0, 0)
def K_te (S : Sch) (P : Pln) (l : Nat) : Int32 := if (K_te3 S P l).1 = -1 then -1 else (100 - S.2.2 4 l) * (K_te3 S P l).2.1 + S.2.2 4 l * (K_te3 S P l).2.2 - (K_te3 S P l).1
theorem te_ge (S : Sch) (P : Pln) (l : Nat) : ((K_te3 S P l).1 < 0) ↔ (K_te3 S P l).1 = -1 := by
  have h : (-1 : Int32) ≤ (K_te3 S P l).1 := by
    unfold K_te3
    refine fo_inv (F := F_test S P l) (fun _ z => (-1 : Int32) ≤ z.1) P.1 0 _ (by decide) (fun j z _ _ hz => ?_)
    unfold F_test
    split
    · exact hz
    · unfold K_max
      dsimp only
      split
      · rename_i h
        rw [le_toInt] at hz ⊢
        rw [lt_toInt] at h
        omega
      · exact hz
  have a : (-1 : Int32).toInt = -1 := by decide
  have b : (0 : Int32).toInt = 0 := by decide
  rw [le_toInt] at h
  rw [lt_toInt, eq_toInt]
  omega
def F_whom (S : Sch) (P : Pln) (l : Nat) (z : Int32 × Int32) : Int32 × Int32 := if K_te S P l ≤ z.1 then z else (K_te S P l, nI l)
def K_whom (S : Sch) (P : Pln) : Int32 := (fo (F_whom S P) S.1 0 (0, -1)).2
def K_test (S : Sch) (P : Pln) (l : Int32) : Int32 := match ixd l S.1 with
  | none => -1
  | some l => K_te S P l
theorem rg_up {x : Int32} (h : rg x 0 11) : rg (x + 1) 0 12 := by
  have e := add_toInt h (show rg (1 : Int32) 1 1 from by unfold rg; decide) (by decide) (by decide) (by decide) (by decide)
  have o : (1 : Int32).toInt = 1 := by decide
  have := h.1
  have := h.2
  unfold rg
  rw [e, o]
  omega
section
variable {Γ : ex_G} {σ : ex_S} {x q a p y : Nat} {S : Sch} {T : Tol} {P : Pln} {g A : Nat → Int32}
theorem busy_some (hX : isX σ x) (hT : isT σ (x + 1) T) (hw : wT T) {u v : Int32} {i j : Nat} (hg : gd T u v i j) (t : Int32) : RetV Γ m_SD_busy [.ref x, .int u, .int v, .int t] σ (.int (K_busy (tS T i) (tP T j) t)) := by
  unfold isX at hX
  obtain ⟨t0, t1, ⟨fs, t2, t3⟩, ⟨fp, t4, t5⟩, t6, t7⟩ := id hT
  unfold RetV
  generalize hQ : (fun (r : Option Value) (σ' : ex_S) => r = some ((.int (K_busy (tS T i) (tP T j) t)) : Value) ∧ σ' = σ) = Q
  refine Ret.start pm_42 rfl ?_
  obtain ⟨rfl, hi, rfl, hj, hgo⟩ := hg
  have hw1 := hw.2.1
  have hw2 := hw.2.2.1
  have hwS := hw.2.2.2.1 i hi
  have hwP := hw.2.2.2.2 j hj
  have hn16 := hwS.1
  have hn5 := hwS.2.1
  have h6 := hwP.1
  have hSi := t6 i (by omega)
  have hPj := t7 j (by omega)
  have hokL : ∀ k, k < (tP T j).1 → okL (tS T i) ((tP T j).2 k) := fun k hk => goT_okL hwS (hgo k hk).1
  obtain ⟨h0, h1, h2, h3, h4, h5, h6', h7, h8, h9, h10⟩ := id hSi
  obtain ⟨p0, ⟨pf, p1, p2⟩, p3⟩ := id hPj
  rcases ix_c2 t (tS T i).2.1 (by omega) with ht | ⟨t, ht, rfl⟩
  · skip
    refine Ev.aload_n rfl rfl ?_
    refine Ev.iload_n rfl rfl ?_
    refine Ev.iload_n rfl rfl ?_
    refine Ev.cV2 rfl rfl (by assumption) rfl rfl (by decide) ⟨(Nat.le_refl _), (Nat.le_refl _)⟩ (going_some hX hT hw ⟨rfl, hi, rfl, hj, hgo⟩) ?_
    refine Ev.astore rfl rfl rfl ?_
    refine Ev.aload_n rfl rfl ?_
    refine Ev.getf rfl rfl (by assumption) rfl ?_
    refine Ev.iload_n rfl rfl ?_
    refine Ev.cV1 rfl rfl (by assumption) rfl rfl (by decide) ⟨(Nat.le_refl _), (Nat.le_refl _)⟩ (schoolAt_some hT hw1 hi) ?_
    refine Ev.astore rfl rfl rfl ?_
    refine Ev.aload rfl rfl ?_
    refine Ev.ifnull rfl ?_
    refine Ev.aload rfl rfl ?_
    refine Ev.ifnull rfl ?_
    refine Ev.aload rfl rfl ?_
    refine Ev.iload_n rfl rfl ?_
    refine Ev.cV1 rfl rfl (by assumption) rfl rfl (by decide) ⟨(Nat.le_refl _), (Nat.le_refl _)⟩ (hasT_ok hSi _) ?_
    rw [hasT_no ht]
    refine Ev.if_ne (tgt := 39) rfl (by decide) (fun c34 => absurd rfl c34) (fun c34 => ?_)
    refine Ev.iconst (v := (-1)) rfl (by decide) ?_
    refine Ev.iret (ty := .int) rfl rfl rfl (Nat.le_refl _) (Nat.le_refl _) ?_
    rw [← hQ]
    exact ⟨by simp [K_busy, ixd_none ht], rfl⟩
  · skip
    refine Ev.aload_n rfl rfl ?_
    refine Ev.iload_n rfl rfl ?_
    refine Ev.iload_n rfl rfl ?_
    refine Ev.cV2 rfl rfl (by assumption) rfl rfl (by decide) ⟨(Nat.le_refl _), (Nat.le_refl _)⟩ (going_some hX hT hw ⟨rfl, hi, rfl, hj, hgo⟩) ?_
    refine Ev.astore rfl rfl rfl ?_
    refine Ev.aload_n rfl rfl ?_
    refine Ev.getf rfl rfl (by assumption) rfl ?_
    refine Ev.iload_n rfl rfl ?_
    refine Ev.cV1 rfl rfl (by assumption) rfl rfl (by decide) ⟨(Nat.le_refl _), (Nat.le_refl _)⟩ (schoolAt_some hT hw1 hi) ?_
    refine Ev.astore rfl rfl rfl ?_
    refine Ev.aload rfl rfl ?_
    refine Ev.ifnull rfl ?_
    refine Ev.aload rfl rfl ?_
    refine Ev.ifnull rfl ?_
    refine Ev.aload rfl rfl ?_
    refine Ev.iload_n rfl rfl ?_
    refine Ev.cV1 rfl rfl (by assumption) rfl rfl (by decide) ⟨(Nat.le_refl _), (Nat.le_refl _)⟩ (hasT_ok hSi _) ?_
    rw [hasT_yes ht hn5]
    refine Ev.if_ne (tgt := 39) rfl (by decide) (fun c34 => ?_) (fun c34 => absurd c34 (by decide))
    refine Ev.aload rfl rfl ?_
    refine Ev.iload_n rfl rfl ?_
    refine Ev.cV1 rfl rfl (by assumption) rfl rfl (by decide) ⟨(Nat.le_refl _), (Nat.le_refl _)⟩ (evs_ok hPj h6 _) ?_
    refine Ev.aload rfl rfl ?_
    refine Ev.getf rfl rfl (by assumption) rfl ?_
    refine Ev.iload_n rfl rfl ?_
    refine Ev.ialdN (k := t) rfl (by assumption) rfl ⟨(by omega), by decide⟩ ?_
    refine Ev.iand rfl ?_
    refine Ev.cS1 rfl rfl rfl (by decide) ⟨(Nat.le_refl _), (Nat.le_refl _)⟩ (bc_ok _) ?_
    refine Ev.iret (ty := .int) rfl rfl rfl (Nat.le_refl _) (Nat.le_refl _) ?_
    rw [← hQ]
    exact ⟨by simp [K_busy, ixd_some ht (by omega : (tS T i).2.1 < 2 ^ 31)], rfl⟩
theorem busy_none (hX : isX σ x) (hT : isT σ (x + 1) T) (hw : wT T) {u v : Int32} (hg : ¬ ∃ i j, gd T u v i j) (t : Int32) : RetV Γ m_SD_busy [.ref x, .int u, .int v, .int t] σ (.int (-1)) := by
  unfold isX at hX
  obtain ⟨t0, t1, ⟨fs, t2, t3⟩, ⟨fp, t4, t5⟩, t6, t7⟩ := id hT
  unfold RetV
  generalize hQ : (fun (r : Option Value) (σ' : ex_S) => r = some ((.int (-1)) : Value) ∧ σ' = σ) = Q
  refine Ret.start pm_42 rfl ?_
  have hw1 := hw.2.1
  rcases ix_cases u (n := tSn T) (by omega) with hu | hu | ⟨i, hi, rfl⟩
  · skip
    refine Ev.aload_n rfl rfl ?_
    refine Ev.iload_n rfl rfl ?_
    refine Ev.iload_n rfl rfl ?_
    refine Ev.cV2 rfl rfl (by assumption) rfl rfl (by decide) ⟨(Nat.le_refl _), (Nat.le_refl _)⟩ (going_none hX hT hw hg) ?_
    refine Ev.astoreN rfl rfl rfl ?_
    refine Ev.aload_n rfl rfl ?_
    refine Ev.getf rfl rfl (by assumption) rfl ?_
    refine Ev.iload_n rfl rfl ?_
    refine Ev.cV1 rfl rfl (by assumption) rfl rfl (by decide) ⟨(Nat.le_refl _), (Nat.le_refl _)⟩ (schoolAt_none hT (Or.inl hu)) ?_
    refine Ev.astoreN rfl rfl rfl ?_
    refine Ev.aloadN rfl rfl ?_
    refine Ev.ifnullN (tgt := 37) rfl (by decide) ?_
    refine Ev.iconst (v := (-1)) rfl (by decide) ?_
    refine Ev.iret (ty := .int) rfl rfl rfl (Nat.le_refl _) (Nat.le_refl _) ?_
    rw [← hQ]
    exact ⟨rfl, rfl⟩
  · skip
    refine Ev.aload_n rfl rfl ?_
    refine Ev.iload_n rfl rfl ?_
    refine Ev.iload_n rfl rfl ?_
    refine Ev.cV2 rfl rfl (by assumption) rfl rfl (by decide) ⟨(Nat.le_refl _), (Nat.le_refl _)⟩ (going_none hX hT hw hg) ?_
    refine Ev.astoreN rfl rfl rfl ?_
    refine Ev.aload_n rfl rfl ?_
    refine Ev.getf rfl rfl (by assumption) rfl ?_
    refine Ev.iload_n rfl rfl ?_
    refine Ev.cV1 rfl rfl (by assumption) rfl rfl (by decide) ⟨(Nat.le_refl _), (Nat.le_refl _)⟩ (schoolAt_none hT (Or.inr hu)) ?_
    refine Ev.astoreN rfl rfl rfl ?_
    refine Ev.aloadN rfl rfl ?_
    refine Ev.ifnullN (tgt := 37) rfl (by decide) ?_
    refine Ev.iconst (v := (-1)) rfl (by decide) ?_
    refine Ev.iret (ty := .int) rfl rfl rfl (Nat.le_refl _) (Nat.le_refl _) ?_
    rw [← hQ]
    exact ⟨rfl, rfl⟩
  · skip
    refine Ev.aload_n rfl rfl ?_
    refine Ev.iload_n rfl rfl ?_
    refine Ev.iload_n rfl rfl ?_
    refine Ev.cV2 rfl rfl (by assumption) rfl rfl (by decide) ⟨(Nat.le_refl _), (Nat.le_refl _)⟩ (going_none hX hT hw hg) ?_
    refine Ev.astoreN rfl rfl rfl ?_
    refine Ev.aload_n rfl rfl ?_
    refine Ev.getf rfl rfl (by assumption) rfl ?_
    refine Ev.iload_n rfl rfl ?_
    refine Ev.cV1 rfl rfl (by assumption) rfl rfl (by decide) ⟨(Nat.le_refl _), (Nat.le_refl _)⟩ (schoolAt_some hT hw1 hi) ?_
    refine Ev.astore rfl rfl rfl ?_
    refine Ev.aloadN rfl rfl ?_
    refine Ev.ifnullN (tgt := 37) rfl (by decide) ?_
    refine Ev.iconst (v := (-1)) rfl (by decide) ?_
    refine Ev.iret (ty := .int) rfl rfl rfl (Nat.le_refl _) (Nat.le_refl _) ?_
    rw [← hQ]
    exact ⟨rfl, rfl⟩
theorem m_busy_some (hM : isM σ y g A) (hT : mT A 0 T) (hw : wT T) {u v : Int32} {i j : Nat} (hg : gd T u v i j) (t : Int32) : RetV Γ m_M_busy [.ref y, .int u, .int v, .int t] σ (.int (K_busy (tS T i) (tP T j) t)) := by
  obtain ⟨m0, m1⟩ := id hM
  unfold RetV
  generalize hQ : (fun (r : Option Value) (σ' : ex_S) => r = some ((.int (K_busy (tS T i) (tP T j) t)) : Value) ∧ σ' = σ) = Q
  refine Ret.start pm_272 rfl ?_
  have hgd := hg
  obtain ⟨rfl, hi, rfl, hj, hgo⟩ := hg
  have hi3 : i < 3 := by have := hw.2.1; omega
  have hj3 : j < 3 := by have := hw.2.2.1; omega
  have hwS := hw.2.2.2.1 i hi
  have hwP := hw.2.2.2.2 j hj
  have hn16 := hwS.1
  have hn5 := hwS.2.1
  have h6 := hwP.1
  have hS := hT.s hi
  have hP := hT.p hj
  have hs : 610 + 120 * i + 120 ≤ 4500 := by omega
  rcases ix_c2 t (tS T i).2.1 (by omega) with ht | ⟨t, ht, rfl⟩
  · skip
    refine Ev.aload_n rfl rfl ?_
    refine Ev.iload_n rfl rfl ?_
    refine Ev.iload_n rfl rfl ?_
    refine Ev.cV2 rfl rfl (by assumption) rfl rfl (by decide) ⟨(Nat.le_refl _), (Nat.le_refl _)⟩ (m_goes_yes hM hT hw hgd) ?_
    refine Ev.if_eq (tgt := 31) rfl (by decide) (fun c6 => absurd c6 (by decide)) (fun c6 => ?_)
    refine Ev.iload_n rfl rfl ?_
    refine Ev.iconst (v := 0) rfl (by decide) ?_
    refine Ev.aload_n rfl rfl ?_
    refine Ev.getf rfl rfl (by assumption) rfl ?_
    refine Ev.iconst (v := 0) rfl (by decide) ?_
    refine Ev.iload_n rfl rfl ?_
    refine Ev.cS2 rfl rfl rfl (by decide) ⟨(Nat.le_refl _), (Nat.le_refl _)⟩ (m_pl0_ok i) ?_
    refine Ev.iconst (v := 1) rfl (by decide) ?_
    refine Ev.iadd rfl ?_
    refine Ev.ialdN (k := 610 + 120 * i + 1) rfl (by assumption) (nI_add _ 1) ⟨(by omega), by decide⟩ ?_
    rw [hS.2.1]
    refine Ev.iconst (v := 1) rfl (by decide) ?_
    refine Ev.isub rfl ?_
    refine Ev.cS3 rfl rfl rfl (by decide) ⟨(Nat.le_refl _), (Nat.le_refl _)⟩ (m_in_ok _ _ _) ?_
    rw [K_in_no (by omega) ht]
    refine Ev.if_ne (tgt := 33) rfl (by decide) (fun c28 => absurd rfl c28) (fun c28 => ?_)
    refine Ev.iconst (v := (-1)) rfl (by decide) ?_
    refine Ev.iret (ty := .int) rfl rfl rfl (Nat.le_refl _) (Nat.le_refl _) ?_
    rw [← hQ]
    exact ⟨by simp [K_busy, ixd_none ht], rfl⟩
  · skip
    refine Ev.aload_n rfl rfl ?_
    refine Ev.iload_n rfl rfl ?_
    refine Ev.iload_n rfl rfl ?_
    refine Ev.cV2 rfl rfl (by assumption) rfl rfl (by decide) ⟨(Nat.le_refl _), (Nat.le_refl _)⟩ (m_goes_yes hM hT hw hgd) ?_
    refine Ev.if_eq (tgt := 31) rfl (by decide) (fun c6 => absurd c6 (by decide)) (fun c6 => ?_)
    refine Ev.iload_n rfl rfl ?_
    refine Ev.iconst (v := 0) rfl (by decide) ?_
    refine Ev.aload_n rfl rfl ?_
    refine Ev.getf rfl rfl (by assumption) rfl ?_
    refine Ev.iconst (v := 0) rfl (by decide) ?_
    refine Ev.iload_n rfl rfl ?_
    refine Ev.cS2 rfl rfl rfl (by decide) ⟨(Nat.le_refl _), (Nat.le_refl _)⟩ (m_pl0_ok i) ?_
    refine Ev.iconst (v := 1) rfl (by decide) ?_
    refine Ev.iadd rfl ?_
    refine Ev.ialdN (k := 610 + 120 * i + 1) rfl (by assumption) (nI_add _ 1) ⟨(by omega), by decide⟩ ?_
    rw [hS.2.1]
    refine Ev.iconst (v := 1) rfl (by decide) ?_
    refine Ev.isub rfl ?_
    refine Ev.cS3 rfl rfl rfl (by decide) ⟨(Nat.le_refl _), (Nat.le_refl _)⟩ (m_in_ok _ _ _) ?_
    rw [K_in_yes ht (by omega)]
    refine Ev.if_ne (tgt := 33) rfl (by decide) (fun c28 => ?_) (fun c28 => absurd c28 (by decide))
    refine Ev.iconst (v := 0) rfl (by decide) ?_
    refine Ev.istore rfl rfl rfl ?_
    refine Ev.iconst (v := 0) rfl (by decide) ?_
    refine Ev.istore rfl rfl rfl ?_
    refine Ev.cg (L' := [some (.ref y), some (.int (nI i)), some (.int (nI j)), some (.int (nI t)), some (.int 0), some (.int (nI 0))]) ?_ (by first | rfl | simp [nI_0])
    refine lp (fun k z => Ev Γ 0 0 m_M_busy 0 0 39 [some (.ref y), some (.int (nI i)), some (.int (nI j)), some (.int (nI t)), some (.int z), some (.int (nI k))] [] σ Q) (fun k x => if (tP T j).2 k 1 = nI t then x ||| (1 : Int32) <<< ((tP T j).2 k 2 &&& 31) else x) ((tP T j).1) (fun k z hi hnx => ?_) ((tP T j).1) 0 (0) (by omega) ?_
    · skip
      refine Ev.iload rfl rfl ?_
      refine Ev.aload_n rfl rfl ?_
      refine Ev.iload_n rfl rfl ?_
      refine Ev.cV1 rfl rfl (by assumption) rfl rfl (by decide) ⟨(Nat.le_refl _), (Nat.le_refl _)⟩ (m_classes_ok hM hP hj3 h6) ?_
      refine Ev.icmp_ge (tgt := 98) rfl (by decide) (fun c46 => absurd c46 (nI_ge hi (by omega))) (fun c46 => ?_)
      refine Ev.iload rfl rfl ?_
      refine Ev.aload_n rfl rfl ?_
      refine Ev.getf rfl rfl (by assumption) rfl ?_
      refine Ev.aload_n rfl rfl ?_
      refine Ev.iload_n rfl rfl ?_
      refine Ev.iload rfl rfl ?_
      refine Ev.cV2 rfl rfl (by assumption) rfl rfl (by decide) ⟨(Nat.le_refl _), (Nat.le_refl _)⟩ (m_classAt_ok hM k) ?_
      refine Ev.iconst (v := 1) rfl (by decide) ?_
      refine Ev.iadd rfl ?_
      refine Ev.ialdN (k := 970 + 40 * j + 1 + 6 * k + 1) rfl (by assumption) (nI_add _ 1) ⟨(by omega), by decide⟩ ?_
      rw [hP.2 k hi 1 (by decide)]
      refine Ev.iload_n rfl rfl ?_
      refine Ev.icmp_ne (tgt := 88) rfl (by decide) (fun c66 => ?_) (fun c66 => ?_)
      · skip
        refine Ev.iconst (v := 0) rfl (by decide) ?_
        refine Ev.ior rfl ?_
        refine Ev.istore rfl rfl rfl ?_
        refine Ev.iinc (d := 1) rfl rfl rfl (by decide) rfl ?_
        refine Ev.goto (tgt := 39) rfl (by decide) ?_
        exact hnx.fg (by simp [ex_ge, nI_1, *])
      · skip
        refine Ev.iconst (v := 1) rfl (by decide) ?_
        refine Ev.aload_n rfl rfl ?_
        refine Ev.getf rfl rfl (by assumption) rfl ?_
        refine Ev.aload_n rfl rfl ?_
        refine Ev.iload_n rfl rfl ?_
        refine Ev.iload rfl rfl ?_
        refine Ev.cV2 rfl rfl (by assumption) rfl rfl (by decide) ⟨(Nat.le_refl _), (Nat.le_refl _)⟩ (m_classAt_ok hM k) ?_
        refine Ev.iconst (v := 2) rfl (by decide) ?_
        refine Ev.iadd rfl ?_
        refine Ev.ialdN (k := 970 + 40 * j + 1 + 6 * k + 2) rfl (by assumption) (nI_add _ 2) ⟨(by omega), by decide⟩ ?_
        rw [hP.2 k hi 2 (by decide)]
        refine Ev.ishl rfl ?_
        refine Ev.goto (tgt := 89) rfl (by decide) ?_
        refine Ev.ior rfl ?_
        refine Ev.istore rfl rfl rfl ?_
        refine Ev.iinc (d := 1) rfl rfl rfl (by decide) rfl ?_
        refine Ev.goto (tgt := 39) rfl (by decide) ?_
        exact hnx.fg (by simp [ex_ge, nI_1, *])
    · skip
      refine Ev.iload rfl rfl ?_
      refine Ev.aload_n rfl rfl ?_
      refine Ev.iload_n rfl rfl ?_
      refine Ev.cV1 rfl rfl (by assumption) rfl rfl (by decide) ⟨(Nat.le_refl _), (Nat.le_refl _)⟩ (m_classes_ok hM hP hj3 h6) ?_
      refine Ev.icmp_ge (tgt := 98) rfl (by decide) (fun c46 => ?_) (fun c46 => absurd (nI_le (Nat.le_refl _) (by omega)) c46)
      refine Ev.iload rfl rfl ?_
      refine Ev.aload_n rfl rfl ?_
      refine Ev.getf rfl rfl (by assumption) rfl ?_
      refine Ev.iconst (v := 0) rfl (by decide) ?_
      refine Ev.iload_n rfl rfl ?_
      refine Ev.cS2 rfl rfl rfl (by decide) ⟨(Nat.le_refl _), (Nat.le_refl _)⟩ (m_pl0_ok i) ?_
      refine Ev.bipush (v := 93) rfl (by decide) ?_
      refine Ev.iadd rfl ?_
      refine Ev.iload_n rfl rfl ?_
      refine Ev.iadd rfl ?_
      refine Ev.ialdN (k := 610 + 120 * i + 93 + t) rfl (by assumption) (ix2 _ 93 t) ⟨(by omega), by decide⟩ ?_
      rw [(hS.2.2.2.2.1 t ht).1]
      refine Ev.iand rfl ?_
      refine Ev.cS1 rfl rfl rfl (by decide) ⟨(Nat.le_refl _), (Nat.le_refl _)⟩ (m_many_ok _) ?_
      refine Ev.iret (ty := .int) rfl rfl rfl (Nat.le_refl _) (Nat.le_refl _) ?_
      obtain ⟨d, ed, -, hd, -⟩ := (hwS.2.2.2.1 t ht).1.nat (by decide)
      obtain ⟨w, hw16, ew⟩ := and_small (K_evs (tP T j) (nI t)) (d := d) (by omega)
      rw [← hQ]
      refine ⟨?_, rfl⟩
      unfold K_busy
      rw [ixd_some ht (by omega)]
      dsimp only
      rw [ed, ew, ← many_nI hw16, ← ew]
      rfl
theorem m_busy_none (hM : isM σ y g A) (hT : mT A 0 T) (hw : wT T) {u v : Int32} (hg : ¬ ∃ i j, gd T u v i j) (t : Int32) : RetV Γ m_M_busy [.ref y, .int u, .int v, .int t] σ (.int (-1)) := by
  obtain ⟨m0, m1⟩ := id hM
  unfold RetV
  generalize hQ : (fun (r : Option Value) (σ' : ex_S) => r = some ((.int (-1)) : Value) ∧ σ' = σ) = Q
  refine Ret.start pm_272 rfl ?_
  refine Ev.aload_n rfl rfl ?_
  refine Ev.iload_n rfl rfl ?_
  refine Ev.iload_n rfl rfl ?_
  refine Ev.cV2 rfl rfl (by assumption) rfl rfl (by decide) ⟨(Nat.le_refl _), (Nat.le_refl _)⟩ (m_goes_no hM hT hw hg) ?_
  refine Ev.if_eq (tgt := 31) rfl (by decide) (fun c6 => ?_) (fun c6 => absurd rfl c6)
  refine Ev.iconst (v := (-1)) rfl (by decide) ?_
  refine Ev.iret (ty := .int) rfl rfl rfl (Nat.le_refl _) (Nat.le_refl _) ?_
  rw [← hQ]
  exact ⟨rfl, rfl⟩
theorem testOf_ok (hS : isS σ a S) (hP : isP σ p P) (h6 : P.1 ≤ 6) (l : Nat) (hl : l < 16) (ht : ∀ k, k < P.1 → okL S (P.2 k)) (hn : S.2.1 ≤ 5) : RetV Γ m_SD_testOf [.ref a, .ref p, .int (nI l)] σ (.int (K_te S P l)) := by
  obtain ⟨h0, h1, h2, h3, h4, h5, h6', h7, h8, h9, h10⟩ := id hS
  obtain ⟨p0, ⟨pf, p1, p2⟩, p3⟩ := id hP
  unfold RetV
  generalize hQ : (fun (r : Option Value) (σ' : ex_S) => r = some ((.int (K_te S P l)) : Value) ∧ σ' = σ) = Q
  refine Ret.start pm_57 rfl ?_
  refine Ev.aload_n rfl rfl ?_
  refine Ev.getf rfl rfl (by assumption) rfl ?_
  refine Ev.iload_n rfl rfl ?_
  refine Ev.ialdN (k := l) rfl (by assumption) rfl ⟨(by omega), by decide⟩ ?_
  refine Ev.istore_n rfl rfl rfl ?_
  refine Ev.aload_n rfl rfl ?_
  refine Ev.getf rfl rfl (by assumption) rfl ?_
  refine Ev.iload_n rfl rfl ?_
  refine Ev.ialdN (k := l) rfl (by assumption) rfl ⟨(by omega), by decide⟩ ?_
  refine Ev.istore rfl rfl rfl ?_
  refine Ev.iconst (v := (-1)) rfl (by decide) ?_
  refine Ev.istore rfl rfl rfl ?_
  refine Ev.iconst (v := 0) rfl (by decide) ?_
  refine Ev.istore rfl rfl rfl ?_
  refine Ev.iconst (v := 0) rfl (by decide) ?_
  refine Ev.istore rfl rfl rfl ?_
  refine Ev.iconst (v := 0) rfl (by decide) ?_
  refine Ev.istore rfl rfl rfl ?_
  refine Ev.cg (L' := [some (.ref a), some (.ref p), some (.int (nI l)), some (.int (S.2.2 4 l)), some (.int (S.2.2 0 l)), some (.int (((-1 : Int32), (0 : Int32), (0 : Int32))).1), some (.int (((-1 : Int32), (0 : Int32), (0 : Int32))).2.1), some (.int (((-1 : Int32), (0 : Int32), (0 : Int32))).2.2), some (.int (nI 0)), none, none, none]) ?_ (by first | rfl | simp [nI_0])
  refine lp (fun k z => Ev Γ 0 0 m_SD_testOf 0 0 27 [some (.ref a), some (.ref p), some (.int (nI l)), some (.int (S.2.2 4 l)), some (.int (S.2.2 0 l)), some (.int (z).1), some (.int (z).2.1), some (.int (z).2.2), some (.int (nI k)), none, none, none] [] σ Q) (F_test S P l) (P.1) (fun k z hi hnx => ?_) (P.1) 0 (((-1 : Int32), (0 : Int32), (0 : Int32))) (by omega) ?_
  · skip
    refine Ev.iload rfl rfl ?_
    refine Ev.aload_n rfl rfl ?_
    refine Ev.getf rfl rfl (by assumption) rfl ?_
    refine Ev.icmp_ge (tgt := 120) rfl (by decide) (fun c33 => absurd c33 (nI_ge hi (by omega))) (fun c33 => ?_)
    refine Ev.aload_n rfl rfl ?_
    refine Ev.getf rfl rfl (by assumption) rfl ?_
    refine Ev.iload rfl rfl ?_
    refine Ev.aaldN (k := k) rfl (by assumption) rfl rfl ⟨(by omega), by decide⟩ (p2 k (by omega)) ?_
    refine Ev.astore rfl rfl rfl ?_
    refine Ev.aload_n rfl rfl ?_
    refine Ev.aload rfl rfl ?_
    refine Ev.iload_n rfl rfl ?_
    refine Ev.cV2 rfl rfl (by assumption) rfl rfl (by decide) ⟨(Nat.le_refl _), (Nat.le_refl _)⟩ (can_ok hS (p3 k (by omega)) _ (kd_in hl (by decide))) ?_
    refine Ev.if_eq (tgt := 114) rfl (by decide) (fun c52 => ?_) (fun c52 => ?_)
    · skip
      refine Ev.iinc (d := 1) rfl rfl rfl (by decide) rfl ?_
      refine Ev.goto (tgt := 27) rfl (by decide) ?_
      exact hnx.fg (by simp [ex_ge, nI_1, F_test, K_max, *])
    · skip
      refine Ev.aload_n rfl rfl ?_
      refine Ev.aload rfl rfl ?_
      refine Ev.iload rfl rfl ?_
      refine Ev.cV2 rfl rfl (by assumption) rfl rfl (by decide) ⟨(Nat.le_refl _), (Nat.le_refl _)⟩ (alone_ok hS (p3 k (by omega)) _ (ht k hi) hn) ?_
      refine Ev.istore rfl rfl rfl ?_
      refine Ev.aload_n rfl rfl ?_
      refine Ev.aload rfl rfl ?_
      refine Ev.iload rfl rfl ?_
      refine Ev.iconst (v := 1) rfl (by decide) ?_
      refine Ev.iadd rfl ?_
      refine Ev.cV2 rfl rfl (by assumption) rfl rfl (by decide) ⟨(Nat.le_refl _), (Nat.le_refl _)⟩ (alone_ok hS (p3 k (by omega)) _ (ht k hi) hn) ?_
      refine Ev.istore rfl rfl rfl ?_
      refine Ev.iload rfl rfl ?_
      refine Ev.bipush (v := 100) rfl (by decide) ?_
      refine Ev.iload_n rfl rfl ?_
      refine Ev.isub rfl ?_
      refine Ev.iload rfl rfl ?_
      refine Ev.imul rfl ?_
      refine Ev.iload_n rfl rfl ?_
      refine Ev.iload rfl rfl ?_
      refine Ev.imul rfl ?_
      refine Ev.iadd rfl ?_
      refine Ev.mmax rfl rfl rfl (Nat.le_of_ble_eq_true rfl) ⟨(Nat.le_refl _), (Nat.le_refl _)⟩ ?_
      refine Ev.istore rfl rfl rfl ?_
      refine Ev.iload rfl rfl ?_
      refine Ev.iload rfl rfl ?_
      refine Ev.mmax rfl rfl rfl (Nat.le_of_ble_eq_true rfl) ⟨(Nat.le_refl _), (Nat.le_refl _)⟩ ?_
      refine Ev.istore rfl rfl rfl ?_
      refine Ev.iload rfl rfl ?_
      refine Ev.iload rfl rfl ?_
      refine Ev.mmax rfl rfl rfl (Nat.le_of_ble_eq_true rfl) ⟨(Nat.le_refl _), (Nat.le_refl _)⟩ ?_
      refine Ev.istore rfl rfl rfl ?_
      refine Ev.iinc (d := 1) rfl rfl rfl (by decide) rfl ?_
      refine Ev.goto (tgt := 27) rfl (by decide) ?_
      exact hnx.fg (by simp [ex_ge, nI_1, F_test, K_max, *])
  · skip
    refine Ev.iload rfl rfl ?_
    refine Ev.aload_n rfl rfl ?_
    refine Ev.getf rfl rfl (by assumption) rfl ?_
    refine Ev.icmp_ge (tgt := 120) rfl (by decide) (fun c33 => ?_) (fun c33 => absurd (nI_le (Nat.le_refl _) (by omega)) c33)
    refine Ev.iload rfl rfl ?_
    refine Ev.iconst (v := (-1)) rfl (by decide) ?_
    refine Ev.icmp_ne (tgt := 130) rfl (by decide) (fun c123 => ?_) (fun c123 => ?_)
    · skip
      refine Ev.bipush (v := 100) rfl (by decide) ?_
      refine Ev.iload_n rfl rfl ?_
      refine Ev.isub rfl ?_
      refine Ev.iload rfl rfl ?_
      refine Ev.imul rfl ?_
      refine Ev.iload_n rfl rfl ?_
      refine Ev.iload rfl rfl ?_
      refine Ev.imul rfl ?_
      refine Ev.iadd rfl ?_
      refine Ev.iload rfl rfl ?_
      refine Ev.isub rfl ?_
      refine Ev.iret (ty := .int) rfl rfl rfl (Nat.le_refl _) (Nat.le_refl _) ?_
      rw [← hQ]
      refine ⟨?_, rfl⟩
      unfold K_te K_te3
      first | rw [if_pos c123] | rw [if_neg c123]
    · skip
      refine Ev.iconst (v := (-1)) rfl (by decide) ?_
      refine Ev.goto (tgt := 145) rfl (by decide) ?_
      refine Ev.iret (ty := .int) rfl rfl rfl (Nat.le_refl _) (Nat.le_refl _) ?_
      rw [← hQ]
      refine ⟨?_, rfl⟩
      unfold K_te K_te3
      first | rw [if_pos c123] | rw [if_neg c123]
theorem m_testOf_ok (hM : isM σ y g A) {s : Nat} (hS : mS A s S) (hs : s + 120 ≤ 4500) (hw : wS S) (hP : mP A (970 + 40 * p) P) (hp : p < 3) (hwp : wP P) (hg : goP S P) (l : Nat) (hl : l < S.1) : RetV Γ m_M_testOf [.ref y, .int (nI s), .int (nI p), .int (nI l)] σ (.int (K_te S P l)) := by
  obtain ⟨m0, m1⟩ := id hM
  unfold RetV
  generalize hQ : (fun (r : Option Value) (σ' : ex_S) => r = some ((.int (K_te S P l)) : Value) ∧ σ' = σ) = Q
  refine Ret.start pm_234 rfl ?_
  have h6 := hwp.1
  have hn16 := hw.1
  have ho : rg (S.2.2 0 l) 0 11 := (hw.2.2.1 l hl).1
  refine Ev.aload_n rfl rfl ?_
  refine Ev.getf rfl rfl (by assumption) rfl ?_
  refine Ev.iload_n rfl rfl ?_
  refine Ev.bipush (v := 77) rfl (by decide) ?_
  refine Ev.iadd rfl ?_
  refine Ev.iload_n rfl rfl ?_
  refine Ev.iadd rfl ?_
  refine Ev.ialdN (k := s + 77 + l) rfl (by assumption) (ix2 _ 77 l) ⟨(by omega), by decide⟩ ?_
  rw [(hS.2.2.2.1 l hl).2.2.2.2]
  refine Ev.istore rfl rfl rfl ?_
  refine Ev.iconst (v := (-1)) rfl (by decide) ?_
  refine Ev.istore rfl rfl rfl ?_
  refine Ev.iconst (v := 0) rfl (by decide) ?_
  refine Ev.istore rfl rfl rfl ?_
  refine Ev.iconst (v := 0) rfl (by decide) ?_
  refine Ev.istore rfl rfl rfl ?_
  refine Ev.iconst (v := 0) rfl (by decide) ?_
  refine Ev.istore rfl rfl rfl ?_
  refine Ev.cg (L' := [some (.ref y), some (.int (nI s)), some (.int (nI p)), some (.int (nI l)), some (.int (S.2.2 4 l)), some (.int (((-1 : Int32), (0 : Int32), (0 : Int32))).1), some (.int (((-1 : Int32), (0 : Int32), (0 : Int32))).2.1), some (.int (((-1 : Int32), (0 : Int32), (0 : Int32))).2.2), some (.int (nI 0)), none, none, none, none]) ?_ (by first | rfl | simp [nI_0])
  refine lp (fun k z => Ev Γ 0 0 m_M_testOf 0 0 25 [some (.ref y), some (.int (nI s)), some (.int (nI p)), some (.int (nI l)), some (.int (S.2.2 4 l)), some (.int (z).1), some (.int (z).2.1), some (.int (z).2.2), some (.int (nI k)), none, none, none, none] [] σ Q) (F_test S P l) (P.1) (fun k z hi hnx => ?_) (P.1) 0 (((-1 : Int32), (0 : Int32), (0 : Int32))) (by omega) ?_
  · skip
    refine Ev.iload rfl rfl ?_
    refine Ev.aload_n rfl rfl ?_
    refine Ev.iload_n rfl rfl ?_
    refine Ev.cV1 rfl rfl (by assumption) rfl rfl (by decide) ⟨(Nat.le_refl _), (Nat.le_refl _)⟩ (m_classes_ok hM hP hp h6) ?_
    refine Ev.icmp_ge (tgt := 160) rfl (by decide) (fun c32 => absurd c32 (nI_ge hi (by omega))) (fun c32 => ?_)
    refine Ev.aload_n rfl rfl ?_
    refine Ev.iload_n rfl rfl ?_
    refine Ev.iload rfl rfl ?_
    refine Ev.cV2 rfl rfl (by assumption) rfl rfl (by decide) ⟨(Nat.le_refl _), (Nat.le_refl _)⟩ (m_classAt_ok hM k) ?_
    refine Ev.istore rfl rfl rfl ?_
    refine Ev.aload_n rfl rfl ?_
    refine Ev.iload_n rfl rfl ?_
    refine Ev.iload rfl rfl ?_
    refine Ev.iload_n rfl rfl ?_
    refine Ev.cV3 rfl rfl (by assumption) rfl rfl (by decide) ⟨(Nat.le_refl _), (Nat.le_refl _)⟩ (m_can_ok hM hS hs hw (hP.2 k hi) (by omega) l hl) ?_
    refine Ev.if_ne (tgt := 58) rfl (by decide) (fun c52 => ?_) (fun c52 => ?_)
    · skip
      refine Ev.aload_n rfl rfl ?_
      refine Ev.iload_n rfl rfl ?_
      refine Ev.iload rfl rfl ?_
      refine Ev.aload_n rfl rfl ?_
      refine Ev.iload_n rfl rfl ?_
      refine Ev.iload_n rfl rfl ?_
      refine Ev.cV2 rfl rfl (by assumption) rfl rfl (by decide) ⟨(Nat.le_refl _), (Nat.le_refl _)⟩ (m_step_ok hM hS hs hw l hl) ?_
      refine Ev.cV3 rfl rfl (by assumption) rfl rfl (by decide) ⟨(Nat.le_refl _), (Nat.le_refl _)⟩ (m_plain_ok hM hS hs hw (hP.2 k hi) (by omega) (hwp.2 k hi) (hg k hi).1 _ (ho.mono (by decide) (by decide))) ?_
      refine Ev.istore rfl rfl rfl ?_
      refine Ev.aload_n rfl rfl ?_
      refine Ev.iload_n rfl rfl ?_
      refine Ev.iload rfl rfl ?_
      refine Ev.aload_n rfl rfl ?_
      refine Ev.iload_n rfl rfl ?_
      refine Ev.iload_n rfl rfl ?_
      refine Ev.cV2 rfl rfl (by assumption) rfl rfl (by decide) ⟨(Nat.le_refl _), (Nat.le_refl _)⟩ (m_step_ok hM hS hs hw l hl) ?_
      refine Ev.iconst (v := 1) rfl (by decide) ?_
      refine Ev.iadd rfl ?_
      refine Ev.cV3 rfl rfl (by assumption) rfl rfl (by decide) ⟨(Nat.le_refl _), (Nat.le_refl _)⟩ (m_plain_ok hM hS hs hw (hP.2 k hi) (by omega) (hwp.2 k hi) (hg k hi).1 _ (rg_up ho)) ?_
      refine Ev.istore rfl rfl rfl ?_
      refine Ev.bipush (v := 100) rfl (by decide) ?_
      refine Ev.iload rfl rfl ?_
      refine Ev.isub rfl ?_
      refine Ev.iload rfl rfl ?_
      refine Ev.imul rfl ?_
      refine Ev.iload rfl rfl ?_
      refine Ev.iload rfl rfl ?_
      refine Ev.imul rfl ?_
      refine Ev.iadd rfl ?_
      refine Ev.istore rfl rfl rfl ?_
      refine Ev.iload rfl rfl ?_
      refine Ev.iload rfl rfl ?_
      refine Ev.icmp_le (tgt := 118) rfl (by decide) (fun c110 => ?_) (fun c110 => ?_)
      · skip
        refine Ev.iload rfl rfl ?_
        refine Ev.istore rfl rfl rfl ?_
        refine Ev.iload rfl rfl ?_
        refine Ev.iload rfl rfl ?_
        refine Ev.icmp_le (tgt := 134) rfl (by decide) (fun c126 => ?_) (fun c126 => ?_)
        · skip
          refine Ev.iload rfl rfl ?_
          refine Ev.istore rfl rfl rfl ?_
          refine Ev.iload rfl rfl ?_
          refine Ev.iload rfl rfl ?_
          refine Ev.icmp_le (tgt := 150) rfl (by decide) (fun c142 => ?_) (fun c142 => ?_)
          · skip
            refine Ev.iload rfl rfl ?_
            refine Ev.istore rfl rfl rfl ?_
            refine Ev.iinc (d := 1) rfl rfl rfl (by decide) rfl ?_
            refine Ev.goto (tgt := 25) rfl (by decide) ?_
            exact hnx.fg (by simp [ex_ge, nI_1, F_test, K_max_le, *])
          · skip
            refine Ev.iload rfl rfl ?_
            refine Ev.goto (tgt := 152) rfl (by decide) ?_
            refine Ev.istore rfl rfl rfl ?_
            refine Ev.iinc (d := 1) rfl rfl rfl (by decide) rfl ?_
            refine Ev.goto (tgt := 25) rfl (by decide) ?_
            exact hnx.fg (by simp [ex_ge, nI_1, F_test, K_max_le, *])
        · skip
          refine Ev.iload rfl rfl ?_
          refine Ev.goto (tgt := 136) rfl (by decide) ?_
          refine Ev.istore rfl rfl rfl ?_
          refine Ev.iload rfl rfl ?_
          refine Ev.iload rfl rfl ?_
          refine Ev.icmp_le (tgt := 150) rfl (by decide) (fun c142 => ?_) (fun c142 => ?_)
          · skip
            refine Ev.iload rfl rfl ?_
            refine Ev.istore rfl rfl rfl ?_
            refine Ev.iinc (d := 1) rfl rfl rfl (by decide) rfl ?_
            refine Ev.goto (tgt := 25) rfl (by decide) ?_
            exact hnx.fg (by simp [ex_ge, nI_1, F_test, K_max_le, *])
          · skip
            refine Ev.iload rfl rfl ?_
            refine Ev.goto (tgt := 152) rfl (by decide) ?_
            refine Ev.istore rfl rfl rfl ?_
            refine Ev.iinc (d := 1) rfl rfl rfl (by decide) rfl ?_
            refine Ev.goto (tgt := 25) rfl (by decide) ?_
            exact hnx.fg (by simp [ex_ge, nI_1, F_test, K_max_le, *])
      · skip
        refine Ev.iload rfl rfl ?_
        refine Ev.goto (tgt := 120) rfl (by decide) ?_
        refine Ev.istore rfl rfl rfl ?_
        refine Ev.iload rfl rfl ?_
        refine Ev.iload rfl rfl ?_
        refine Ev.icmp_le (tgt := 134) rfl (by decide) (fun c126 => ?_) (fun c126 => ?_)
        · skip
          refine Ev.iload rfl rfl ?_
          refine Ev.istore rfl rfl rfl ?_
          refine Ev.iload rfl rfl ?_
          refine Ev.iload rfl rfl ?_
          refine Ev.icmp_le (tgt := 150) rfl (by decide) (fun c142 => ?_) (fun c142 => ?_)
          · skip
            refine Ev.iload rfl rfl ?_
            refine Ev.istore rfl rfl rfl ?_
            refine Ev.iinc (d := 1) rfl rfl rfl (by decide) rfl ?_
            refine Ev.goto (tgt := 25) rfl (by decide) ?_
            exact hnx.fg (by simp [ex_ge, nI_1, F_test, K_max_le, *])
          · skip
            refine Ev.iload rfl rfl ?_
            refine Ev.goto (tgt := 152) rfl (by decide) ?_
            refine Ev.istore rfl rfl rfl ?_
            refine Ev.iinc (d := 1) rfl rfl rfl (by decide) rfl ?_
            refine Ev.goto (tgt := 25) rfl (by decide) ?_
            exact hnx.fg (by simp [ex_ge, nI_1, F_test, K_max_le, *])
        · skip
          refine Ev.iload rfl rfl ?_
          refine Ev.goto (tgt := 136) rfl (by decide) ?_
          refine Ev.istore rfl rfl rfl ?_
          refine Ev.iload rfl rfl ?_
          refine Ev.iload rfl rfl ?_
          refine Ev.icmp_le (tgt := 150) rfl (by decide) (fun c142 => ?_) (fun c142 => ?_)
          · skip
            refine Ev.iload rfl rfl ?_
            refine Ev.istore rfl rfl rfl ?_
            refine Ev.iinc (d := 1) rfl rfl rfl (by decide) rfl ?_
            refine Ev.goto (tgt := 25) rfl (by decide) ?_
            exact hnx.fg (by simp [ex_ge, nI_1, F_test, K_max_le, *])
          · skip
            refine Ev.iload rfl rfl ?_
            refine Ev.goto (tgt := 152) rfl (by decide) ?_
            refine Ev.istore rfl rfl rfl ?_
            refine Ev.iinc (d := 1) rfl rfl rfl (by decide) rfl ?_
            refine Ev.goto (tgt := 25) rfl (by decide) ?_
            exact hnx.fg (by simp [ex_ge, nI_1, F_test, K_max_le, *])
    · skip
      refine Ev.goto (tgt := 154) rfl (by decide) ?_
      refine Ev.iinc (d := 1) rfl rfl rfl (by decide) rfl ?_
      refine Ev.goto (tgt := 25) rfl (by decide) ?_
      exact hnx.fg (by simp [ex_ge, nI_1, F_test, K_max_le, *])
  · skip
    refine Ev.iload rfl rfl ?_
    refine Ev.aload_n rfl rfl ?_
    refine Ev.iload_n rfl rfl ?_
    refine Ev.cV1 rfl rfl (by assumption) rfl rfl (by decide) ⟨(Nat.le_refl _), (Nat.le_refl _)⟩ (m_classes_ok hM hP hp h6) ?_
    refine Ev.icmp_ge (tgt := 160) rfl (by decide) (fun c32 => ?_) (fun c32 => absurd (nI_le (Nat.le_refl _) (by omega)) c32)
    refine Ev.iload rfl rfl ?_
    refine Ev.if_ge (tgt := 169) rfl (by decide) (fun c162 => ?_) (fun c162 => ?_)
    · skip
      refine Ev.bipush (v := 100) rfl (by decide) ?_
      refine Ev.iload rfl rfl ?_
      refine Ev.isub rfl ?_
      refine Ev.iload rfl rfl ?_
      refine Ev.imul rfl ?_
      refine Ev.iload rfl rfl ?_
      refine Ev.iload rfl rfl ?_
      refine Ev.imul rfl ?_
      refine Ev.iadd rfl ?_
      refine Ev.iload rfl rfl ?_
      refine Ev.isub rfl ?_
      refine Ev.iret (ty := .int) rfl rfl rfl (Nat.le_refl _) (Nat.le_refl _) ?_
      rw [← hQ]
      refine ⟨?_, rfl⟩
      unfold K_te
      first
      | rw [if_pos ((te_ge S P l).mp (by first | exact c162 | exact gt_le.mp c162))]
      | (rw [if_neg (fun h => absurd ((te_ge S P l).mpr h) (by first | exact c162 | exact fun q => gt_le.mpr q c162))]; rfl)
    · skip
      refine Ev.iconst (v := (-1)) rfl (by decide) ?_
      refine Ev.goto (tgt := 186) rfl (by decide) ?_
      refine Ev.iret (ty := .int) rfl rfl rfl (Nat.le_refl _) (Nat.le_refl _) ?_
      rw [← hQ]
      refine ⟨?_, rfl⟩
      unfold K_te
      first
      | rw [if_pos ((te_ge S P l).mp (by first | exact c162 | exact gt_le.mp c162))]
      | (rw [if_neg (fun h => absurd ((te_ge S P l).mpr h) (by first | exact c162 | exact fun q => gt_le.mpr q c162))]; rfl)
end
end
