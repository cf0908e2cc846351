/-! The reference shares seats out (printed by sym.py). -/
noncomputable section
theorem rows_le {n L : Nat} (hn : n ≤ 3) (hL : L ≤ 8) : (n + 1) ^ L ≤ 65536 := by
  have h1 : (n + 1) ^ L ≤ 4 ^ L := Nat.pow_le_pow_left (by omega) L
  have h2 : (4 : Nat) ^ L ≤ 4 ^ 8 := Nat.pow_le_pow_right (by decide) hL
  have h3 : (4 : Nat) ^ 8 = 65536 := by decide
  omega
theorem rows_fo {F : Nat → Int32 → Int32} {n : Nat} (h : ∀ k z, F k z = z * (nI n + 1)) : ∀ L, fo F L 0 (1 : Int32) = nI ((n + 1) ^ L) := by
  intro L
  induction L with
  | zero => rfl
  | succ L ih => rw [fo_last, ih, h, Nat.pow_succ, show (1 : Int32) = nI 1 from rfl, nI_add, pk_mul]
theorem K_in10 {l L : Nat} (hl : l < L) (hL : L ≤ 16) : K_in (nI (10 + l)) 10 (9 + nI L) = 1 := by
  have e1 : (10 : Int32) = nI 10 := rfl
  have e2 : (9 : Int32) = nI 9 := rfl
  unfold K_in
  rw [e1, e2, nI_add, if_neg (nI_nlt (by omega) (by omega)), if_neg (nI_nlt (by omega) (by omega))]
theorem n10 {l : Nat} (h : l < 100) : ¬ nI (10 + l) = 0 := by
  intro e
  have := nI_injL (b := 0) (by omega) (by omega) e
  omega
theorem lays_hrow {r0 L n : Nat} {g vt vr : Nat → Int32} (hL : L ≤ 16) (hn : n ≤ 6) (hr0 : r0 < 2 ^ 31) : ∀ l, l < L → (K_m_lays r0 L n g vt vr).2 l = nI ((K_m_lays r0 L n g vt vr).2 l).toNatClampNeg ∧ ((K_m_lays r0 L n g vt vr).2 l).toNatClampNeg ≤ n := by
  intro l hl
  have h := (lays_sem (g := g) (vt := vt) (vr := vr) hL hn hr0).1 l hl
  have h2 := @dg_le n L r0 l
  rw [h, nI_clamp (by omega)]
  exact ⟨rfl, h2⟩
theorem lays_htr {S : Sch} {r0 n : Nat} {g vt vr : Nat → Int32} (hL : S.1 ≤ 16) (hn : n ≤ 6) (hr0 : r0 < 2 ^ 31) : ∀ k, k < n → inS S ((K_m_lays r0 S.1 n g vt vr).1 k) := by
  intro k hk
  exact ⟨_, pt_lt, (lays_sem (g := g) (vt := vt) (vr := vr) hL hn hr0).2 k hk⟩
theorem tog_none {S : Sch} (hw : wS S) (C : Les) : K_tog S C (nI 0) = 0 := by
  rw [tog_by hw (Nat.two_pow_pos _)]
  have := fo_inv (F := fun l x => x + (if K_bit (nI 0) (nI l) = 1 then K_by S C (nI 0) l else 0)) (fun _ z => z = 0) S.1 0 0 rfl (fun j z _ hj hz => by
    have h16 := hw.1
    rw [hz, bit_tb (by omega) (by omega), Nat.zero_testBit]
    rfl)
  exact this
theorem pt_home {n L k : Nat} (hk : k < n) {r : Nat} (hr : ∀ l, l < L → dg n L r l = n) : pt (dg n L r) (2 ^ L - 1) k L = 0 := by
  refine (ptF_eq (fun j => ?_)).symm
  rw [Nat.zero_testBit]
  constructor
  · intro h; cases h
  · rintro ⟨a, b⟩
    rw [hr j a] at b
    omega
theorem okS_0 {S : Sch} {C : Les} : okS S C 0 := by
  refine ⟨Or.inl ?_, fun l _ h => ?_⟩
  · rw [bc_nI (by omega)]
    rfl
  · rw [Nat.zero_testBit] at h
    cases h
/-- what is learnt by row r -/
def lval (S : Sch) (P : Pln) (r : Nat) : Int32 := fo (fun k z => z + K_tog S (P.2 k) (nI (pt (dg P.1 S.1 r) (2 ^ S.1 - 1) k S.1))) P.1 0 0
def rgt (S : Sch) (P : Pln) (r : Nat) : Prop := ∀ k, k < P.1 → okS S (P.2 k) (pt (dg P.1 S.1 r) (2 ^ S.1 - 1) k S.1)
theorem lval_eq {S : Sch} {P : Pln} {r : Nat} {vt : Nat → Int32} (h : ∀ k, k < P.1 → vt k = nI (pt (dg P.1 S.1 r) (2 ^ S.1 - 1) k S.1)) : K_m_ltried S P vt = lval S P r := by
  unfold K_m_ltried lval
  refine fo_rel (fun _ a b => a = b) P.1 0 0 0 rfl (fun j a b _ hj e => ?_)
  unfold F_m_ltried_6
  rw [e, h j (by omega)]
theorem lval_sn {S : Sch} {P : Pln} (hw : wS S) (h6 : P.1 ≤ 6) (r : Nat) : sn (lval S P r) 30294 := by
  have h := fo_inv (F := fun k z => z + K_tog S (P.2 k) (nI (pt (dg P.1 S.1 r) (2 ^ S.1 - 1) k S.1))) (fun i z => sn z (i * 5049)) P.1 0 0 sn_0 (fun j z _ _ hz => by
    have h16 := hw.1
    have hp : 2 ^ S.1 ≤ 2 ^ 16 := Nat.pow_le_pow_right (by decide) h16
    have h1 := @pt_lt (dg P.1 S.1 r) (2 ^ S.1 - 1) j S.1
    rw [Nat.succ_mul]
    exact sn_add hz (tog_sn hw _ (by omega)))
  obtain ⟨n, h1, h2⟩ := h
  exact ⟨n, by omega, h2⟩
theorem rgt_ex (S : Sch) (P : Pln) : ∃ r, r < (P.1 + 1) ^ S.1 ∧ rgt S P r := by
  refine ⟨nr P.1 (fun _ => P.1) S.1, nr_lt _ _ _, fun k hk => ?_⟩
  rw [pt_home hk (fun l hl => by rw [dg_nr _ _ _ _ hl]; exact Nat.min_self _)]
  exact okS_0
theorem seats_run {S : Sch} {P : Pln} {g vt vr : Nat → Int32} {F : Nat → (Int32 × Int32 × (Nat → Int32) × (Nat → Int32)) → (Int32 × Int32 × (Nat → Int32) × (Nat → Int32))} (hF : ∀ k z, F k z = if (K_m_right S P ((K_m_lays k S.1 P.1 g z.2.2.1 z.2.2.2).1) ((K_m_lays k S.1 P.1 g z.2.2.1 z.2.2.2).2)) = (0 : Int32) then (z.1, z.2.1, (K_m_lays k S.1 P.1 g z.2.2.1 z.2.2.2).1, (K_m_lays k S.1 P.1 g z.2.2.1 z.2.2.2).2) else (if z.2.1 < (K_m_ltried S P ((K_m_lays k S.1 P.1 g z.2.2.1 z.2.2.2).1)) then (nI k, K_m_ltried S P ((K_m_lays k S.1 P.1 g z.2.2.1 z.2.2.2).1), (K_m_lays k S.1 P.1 g z.2.2.1 z.2.2.2).1, (K_m_lays k S.1 P.1 g z.2.2.1 z.2.2.2).2) else (z.1, z.2.1, (K_m_lays k S.1 P.1 g z.2.2.1 z.2.2.2).1, (K_m_lays k S.1 P.1 g z.2.2.1 z.2.2.2).2)))
    (hw : wS S) (hwP : wP P) (hs8 : S.1 ≤ 8) (hp3 : P.1 ≤ 3) : ∃ b, b < (P.1 + 1) ^ S.1 ∧ (fo F ((P.1 + 1) ^ S.1) 0 ((-1 : Int32), (-1 : Int32), vt, vr)).1 = nI b ∧ (fo F ((P.1 + 1) ^ S.1) 0 ((-1 : Int32), (-1 : Int32), vt, vr)).2.1 = lval S P b ∧ rgt S P b ∧ (∀ r, r < (P.1 + 1) ^ S.1 → rgt S P r → lval S P r ≤ lval S P b) ∧ ∀ r, r < b → rgt S P r → lval S P r < lval S P b := by
  have hrows := rows_le hp3 hs8
  have h := fo_inv (F := F) (fun i z => (z.1 = -1 ∧ z.2.1 = -1 ∧ ∀ r, r < i → ¬ rgt S P r) ∨ ∃ b, b < i ∧ z.1 = nI b ∧ z.2.1 = lval S P b ∧ rgt S P b ∧ (∀ r, r < i → rgt S P r → lval S P r ≤ lval S P b) ∧ ∀ r, r < b → rgt S P r → lval S P r < lval S P b) ((P.1 + 1) ^ S.1) 0 ((-1 : Int32), (-1 : Int32), vt, vr) (Or.inl ⟨rfl, rfl, fun r h => by omega⟩) (fun j z _ hj hz => by
    obtain ⟨l1, l2⟩ := lays_sem (g := g) (vt := z.2.2.1) (vr := z.2.2.2) (r0 := j) (L := S.1) (n := P.1) hw.1 (by omega) (by omega)
    have hr := right_iff hw hwP.1 (d := dg P.1 S.1 j) (fun _ _ => dg_le) l1 l2
    have hl := lval_eq l2
    rw [hF]
    rcases hr with ⟨r1, r2⟩ | ⟨r1, r2⟩
    · rw [if_pos r1]
      rcases hz with ⟨z1, z2, z3⟩ | ⟨b, z1, z2, z3, z4, z5, z6⟩
      · refine Or.inl ⟨z1, z2, fun r hr => ?_⟩
        by_cases e : r = j
        · subst e; exact r2
        · exact z3 r (by omega)
      · refine Or.inr ⟨b, by omega, z2, z3, z4, fun r hr hg => ?_, z6⟩
        by_cases e : r = j
        · subst e; exact absurd hg r2
        · exact z5 r (by omega) hg
    · rw [if_neg (by rw [r1]; decide), hl]
      rcases hz with ⟨z1, z2, z3⟩ | ⟨b, z1, z2, z3, z4, z5, z6⟩
      · obtain ⟨n, n1, n2⟩ := lval_sn (P := P) hw hwP.1 j
        rw [if_pos (by rw [z2, n2, lt_toInt, nI_toInt (by omega), show (-1 : Int32).toInt = -1 from by decide]; omega)]
        refine Or.inr ⟨j, by omega, rfl, rfl, r2, fun r hr hg => ?_, fun r hr hg => absurd hg (z3 r hr)⟩
        by_cases e : r = j
        · subst e; exact le_rf _
        · exact absurd hg (z3 r (by omega))
      · by_cases c : z.2.1 < lval S P j
        · rw [if_pos c]
          rw [z3] at c
          refine Or.inr ⟨j, by omega, rfl, rfl, r2, fun r hr hg => ?_, fun r hr hg => ?_⟩
          · by_cases e : r = j
            · subst e; exact le_rf _
            · exact le_tr (z5 r (by omega) hg) (le_of_ltI c)
          · have := z5 r hr hg
            rw [le_toInt] at this
            rw [lt_toInt] at c ⊢
            omega
        · rw [if_neg c]
          rw [z3] at c
          refine Or.inr ⟨b, by omega, z2, z3, z4, fun r hr hg => ?_, z6⟩
          by_cases e : r = j
          · subst e; exact (lt_or_le _ _).resolve_left c
          · exact z5 r (by omega) hg)
  rw [Nat.zero_add] at h
  rcases h with ⟨-, -, h3⟩ | ⟨b, h⟩
  · obtain ⟨r, a1, a2⟩ := rgt_ex S P
    exact absurd a2 (h3 r a1)
  · exact ⟨b, h⟩
theorem seats_nn {S : Sch} {P : Pln} {g vt vr : Nat → Int32} {F : Nat → (Int32 × Int32 × (Nat → Int32) × (Nat → Int32)) → (Int32 × Int32 × (Nat → Int32) × (Nat → Int32))} (hF : ∀ k z, F k z = if (K_m_right S P ((K_m_lays k S.1 P.1 g z.2.2.1 z.2.2.2).1) ((K_m_lays k S.1 P.1 g z.2.2.1 z.2.2.2).2)) = (0 : Int32) then (z.1, z.2.1, (K_m_lays k S.1 P.1 g z.2.2.1 z.2.2.2).1, (K_m_lays k S.1 P.1 g z.2.2.1 z.2.2.2).2) else (if z.2.1 < (K_m_ltried S P ((K_m_lays k S.1 P.1 g z.2.2.1 z.2.2.2).1)) then (nI k, K_m_ltried S P ((K_m_lays k S.1 P.1 g z.2.2.1 z.2.2.2).1), (K_m_lays k S.1 P.1 g z.2.2.1 z.2.2.2).1, (K_m_lays k S.1 P.1 g z.2.2.1 z.2.2.2).2) else (z.1, z.2.1, (K_m_lays k S.1 P.1 g z.2.2.1 z.2.2.2).1, (K_m_lays k S.1 P.1 g z.2.2.1 z.2.2.2).2)))
    (hw : wS S) (hwP : wP P) (hs8 : S.1 ≤ 8) (hp3 : P.1 ≤ 3) : (fo F ((P.1 + 1) ^ S.1) 0 ((-1 : Int32), (-1 : Int32), vt, vr)).1 = nI ((fo F ((P.1 + 1) ^ S.1) 0 ((-1 : Int32), (-1 : Int32), vt, vr)).1).toNatClampNeg ∧ ((fo F ((P.1 + 1) ^ S.1) 0 ((-1 : Int32), (-1 : Int32), vt, vr)).1).toNatClampNeg < (P.1 + 1) ^ S.1 := by
  obtain ⟨b, b1, b2, -⟩ := seats_run hF hw hwP hs8 hp3 (vt := vt) (vr := vr)
  have hrows := rows_le hp3 hs8
  rw [b2, nI_clamp (by omega)]
  exact ⟨rfl, b1⟩

section
variable {Γ : ex_G} {σ : ex_S} {x q a p y : Nat} {S : Sch} {T : Tol} {P : Pln} {g A : Nat → Int32}
def F_m_seats0_76 (T : Tol) (i j : Nat) (g : Nat → Int32) (v_tried : Nat → Int32) (v_row : Nat → Int32) : Nat → Int32 → Int32 := fun k z => z * ((nI ((tP T j).1)) + (1 : Int32))
def F_m_seats0_112 (T : Tol) (i j : Nat) (g : Nat → Int32) (v_tried : Nat → Int32) (v_row : Nat → Int32) : Nat → (Int32 × Int32 × (Nat → Int32) × (Nat → Int32)) → (Int32 × Int32 × (Nat → Int32) × (Nat → Int32)) := fun k z => if (K_m_right (tS T i) (tP T j) ((K_m_lays k ((tS T i).1) ((tP T j).1) g z.2.2.1 z.2.2.2).1) ((K_m_lays k ((tS T i).1) ((tP T j).1) g z.2.2.1 z.2.2.2).2)) = (0 : Int32) then (z.1, z.2.1, (K_m_lays k ((tS T i).1) ((tP T j).1) g z.2.2.1 z.2.2.2).1, (K_m_lays k ((tS T i).1) ((tP T j).1) g z.2.2.1 z.2.2.2).2) else (if z.2.1 < (K_m_ltried (tS T i) (tP T j) ((K_m_lays k ((tS T i).1) ((tP T j).1) g z.2.2.1 z.2.2.2).1)) then (nI k, K_m_ltried (tS T i) (tP T j) ((K_m_lays k ((tS T i).1) ((tP T j).1) g z.2.2.1 z.2.2.2).1), (K_m_lays k ((tS T i).1) ((tP T j).1) g z.2.2.1 z.2.2.2).1, (K_m_lays k ((tS T i).1) ((tP T j).1) g z.2.2.1 z.2.2.2).2) else (z.1, z.2.1, (K_m_lays k ((tS T i).1) ((tP T j).1) g z.2.2.1 z.2.2.2).1, (K_m_lays k ((tS T i).1) ((tP T j).1) g z.2.2.1 z.2.2.2).2))
def K_m_seats0 (T : Tol) (i j : Nat) (g : Nat → Int32) (v_tried : Nat → Int32) (v_row : Nat → Int32) : Int32 × (Nat → Int32) × (Nat → Int32) := ((fo (F_m_seats0_112 T i j g v_tried v_row) (((tP T j).1 + 1) ^ (tS T i).1) 0 ((-1 : Int32), (-1 : Int32), v_tried, v_row)).2.1, (K_m_lays (((fo (F_m_seats0_112 T i j g v_tried v_row) (((tP T j).1 + 1) ^ (tS T i).1) 0 ((-1 : Int32), (-1 : Int32), v_tried, v_row)).1).toNatClampNeg) ((tS T i).1) ((tP T j).1) g ((fo (F_m_seats0_112 T i j g v_tried v_row) (((tP T j).1 + 1) ^ (tS T i).1) 0 ((-1 : Int32), (-1 : Int32), v_tried, v_row)).2.2.1) ((fo (F_m_seats0_112 T i j g v_tried v_row) (((tP T j).1 + 1) ^ (tS T i).1) 0 ((-1 : Int32), (-1 : Int32), v_tried, v_row)).2.2.2)).1, (K_m_lays (((fo (F_m_seats0_112 T i j g v_tried v_row) (((tP T j).1 + 1) ^ (tS T i).1) 0 ((-1 : Int32), (-1 : Int32), v_tried, v_row)).1).toNatClampNeg) ((tS T i).1) ((tP T j).1) g ((fo (F_m_seats0_112 T i j g v_tried v_row) (((tP T j).1 + 1) ^ (tS T i).1) 0 ((-1 : Int32), (-1 : Int32), v_tried, v_row)).2.2.1) ((fo (F_m_seats0_112 T i j g v_tried v_row) (((tP T j).1 + 1) ^ (tS T i).1) 0 ((-1 : Int32), (-1 : Int32), v_tried, v_row)).2.2.2)).2)
theorem m_seats0_some (hM : isM σ y g A) (hT : mT A 0 T) (hw : wT T)  {v_tried : Nat → Int32} (m_tried : σ.2 (y + 8) = some (.inl (0, 6, v_tried))) {v_row : Nat → Int32} (m_row : σ.2 (y + 9) = some (.inl (0, 16, v_row))) {u v : Int32} {i j : Nat} (hg : gd T u v i j) (hs8 : (tS T i).1 ≤ 8) (hp3 : (tP T j).1 ≤ 3) : RetX Γ m_M_seats [(.ref y), .int u, .int v, (.int (0 : Int32))] σ y (y + 17) (some (.int ((K_m_seats0 T i j g v_tried v_row).1))) (fun τ => τ.2 (y + 8) = some (.inl (0, 6, (K_m_seats0 T i j g v_tried v_row).2.1)) ∧ τ.2 (y + 9) = some (.inl (0, 16, (K_m_seats0 T i j g v_tried v_row).2.2)) ∧ (∀ q, q ≠ y + 8 → q ≠ y + 9 → τ.2 q = σ.2 q)) := by
  obtain ⟨m0, m1⟩ := id hM
  have hgd := hg
  obtain ⟨rfl, hi, rfl, hj, hgo⟩ := hg
  have hi3 : i < 3 := by have := hw.2.1; omega
  have hj3 : j < 3 := by have := hw.2.2.1; omega
  have hwS := hw.2.2.2.1 i hi
  have hwP := hw.2.2.2.2 j hj
  have hn16 := hwS.1
  have hn5 := hwS.2.1
  have h6 := hwP.1
  have hS := hT.s hi
  have hP := hT.p hj
  have hs : 610 + 120 * i + 120 ≤ 4500 := by omega
  have hrows := rows_le hp3 hs8
  unfold RetX
  generalize hQ : (fun (r : Option Value) (τ : ex_S) => r = some (.int ((K_m_seats0 T i j g v_tried v_row).1)) ∧ frm σ τ y (y + 17) ∧ (fun τ : ex_S => τ.2 (y + 8) = some (.inl (0, 6, (K_m_seats0 T i j g v_tried v_row).2.1)) ∧ τ.2 (y + 9) = some (.inl (0, 16, (K_m_seats0 T i j g v_tried v_row).2.2)) ∧ (∀ q, q ≠ y + 8 → q ≠ y + 9 → τ.2 q = σ.2 q)) τ) = Q
  refine Ret.start pm_231 rfl ?_
  have fr : frm σ σ y (y + 17) := frm.rf
  have kp : (∀ q, q ≠ y + 8 → q ≠ y + 9 → σ.2 q = σ.2 q) := fun _ _ _ => rfl
  have hM : isM _ y g A := ⟨m0, m1⟩
  refine Ev.aload_n rfl rfl ?_
  refine Ev.iload_n rfl rfl ?_
  refine Ev.iload_n rfl rfl ?_
  refine Ev.cV2 rfl rfl m0 rfl rfl (by decide) ⟨(Nat.le_refl _), (Nat.le_refl _)⟩ (m_goes_yes hM hT hw hgd) ?_
  refine Ev.zne (tgt := 12) rfl (by decide) (fun c6 => ?_) (fun c6 => absurd c6 (by decide))
  refine Ev.iconst (v := 0) rfl (by decide) ?_
  refine Ev.iload_n rfl rfl ?_
  refine Ev.cS2 rfl rfl rfl (by decide) ⟨(Nat.le_refl _), (Nat.le_refl _)⟩ (m_pl0_ok i) ?_
  refine Ev.istore rfl rfl rfl ?_
  refine Ev.aload_n rfl rfl ?_
  refine Ev.iload_n rfl rfl ?_
  refine Ev.cV1 rfl rfl m0 rfl rfl (by decide) ⟨(Nat.le_refl _), (Nat.le_refl _)⟩ (m_classes_ok hM hP hj3 h6) ?_
  refine Ev.istore rfl rfl rfl ?_
  refine Ev.aload_n rfl rfl ?_
  refine Ev.getf rfl rfl m0 rfl ?_
  refine Ev.iload rfl rfl ?_
  refine Ev.ialdN (k := 610 + 120 * i) rfl m1 (nq_to (a := 610 + 120 * i) rfl (by omega)) ⟨(by omega), by decide⟩ ?_
  rw [hS.1]
  refine Ev.bipush (v := 8) rfl (by decide) ?_
  refine Ev.jgt (tgt := 67) rfl (by decide) (fun c35 => absurd c35 (nI_nlt (a := 8) hs8 (by omega))) (fun c35 => ?_)
  refine Ev.iload rfl rfl ?_
  refine Ev.iconst (v := 3) rfl (by decide) ?_
  refine Ev.jgt (tgt := 67) rfl (by decide) (fun c41 => absurd c41 (nI_nlt (a := 3) hp3 (by omega))) (fun c41 => ?_)
  refine Ev.iload_n rfl rfl ?_
  refine Ev.zeq (tgt := 70) rfl (by decide) (fun c45 => ?_) (fun c45 => absurd (by decide) c45)
  refine Ev.iconst (v := 1) rfl (by decide) ?_
  refine Ev.istore rfl rfl rfl ?_
  refine Ev.iconst (v := 0) rfl (by decide) ?_
  refine Ev.istore rfl rfl rfl ?_
  refine Ev.fg (L := [some (.ref y), none, some (.int (nI j)), some (.int (0 : Int32)), some (.int (nI (610 + 120 * i))), some (.int (nI ((tP T j).1))), some (.int (1 : Int32)), some (.int (nI 0)), none, none, none]) ?_ (gs rfl (gn (gs rfl (gs rfl (gs rfl (gs rfl (gs rfl (gs (congrArg Value.int (rfl : (0 : Int32) = nI 0).symm) (gn (gn (gn gz)))))))))))
  refine lp (fun (k : Nat) (z : Int32) => Ev Γ 0 0 m_M_seats 0 0 76 [some (.ref y), none, some (.int (nI j)), some (.int (0 : Int32)), some (.int (nI (610 + 120 * i))), some (.int (nI ((tP T j).1))), some (.int z), some (.int (nI k)), none, none, none] [] σ Q) (F_m_seats0_76 T i j g v_tried v_row) ((tS T i).1) (fun k z hk hx => ?_) ((tS T i).1) 0 (1 : Int32) (by omega) ?_
  · skip
    refine Ev.iload rfl rfl ?_
    refine Ev.aload_n rfl rfl ?_
    refine Ev.getf rfl rfl m0 rfl ?_
    refine Ev.iload rfl rfl ?_
    refine Ev.ialdN (k := 610 + 120 * i) rfl m1 (nq_to (a := 610 + 120 * i) rfl (by omega)) ⟨(by omega), by decide⟩ ?_
    rw [hS.1]
    refine Ev.jge (tgt := 103) rfl (by decide) (fun c85 => absurd (nI_lt hk (by omega)) c85) (fun c85 => ?_)
    refine Ev.iload rfl rfl ?_
    refine Ev.iload rfl rfl ?_
    refine Ev.iconst (v := 1) rfl (by decide) ?_
    refine Ev.iadd rfl ?_
    refine Ev.imul rfl ?_
    refine Ev.istore rfl rfl rfl ?_
    refine Ev.iinc (d := 1) rfl rfl rfl (by decide) rfl ?_
    refine Ev.goto (tgt := 76) rfl (by decide) ?_
    have hF : (F_m_seats0_76 T i j g v_tried v_row) k z = z * ((nI ((tP T j).1)) + (1 : Int32)) := by rfl
    rw [hF] at hx
    exact hx.fg (gs rfl (gn (gs rfl (gs rfl (gs rfl (gs rfl (gs rfl (gs (congrArg Value.int (show nI (k + 1) = (nI k) + (1 : Int32) from (nq_to (a := k + 1) (nq_add (a := k) (b := 1) rfl (rfl : (1 : Int32) = nI 1)) (by omega)).symm)) (gn (gn (gn gz)))))))))))
  · skip
    refine Ev.iload rfl rfl ?_
    refine Ev.aload_n rfl rfl ?_
    refine Ev.getf rfl rfl m0 rfl ?_
    refine Ev.iload rfl rfl ?_
    refine Ev.ialdN (k := 610 + 120 * i) rfl m1 (nq_to (a := 610 + 120 * i) rfl (by omega)) ⟨(by omega), by decide⟩ ?_
    rw [hS.1]
    refine Ev.jge (tgt := 103) rfl (by decide) (fun c85 => ?_) (fun c85 => absurd c85 (nI_nlt (Nat.le_refl _) (by omega)))
    rw [show (fo (F_m_seats0_76 T i j g v_tried v_row) ((tS T i).1) 0 (1 : Int32)) = nI (((tP T j).1 + 1) ^ (tS T i).1) from rows_fo (fun _ _ => rfl) _]
    refine Ev.iconst (v := (-1)) rfl (by decide) ?_
    refine Ev.istore rfl rfl rfl ?_
    refine Ev.iconst (v := (-1)) rfl (by decide) ?_
    refine Ev.istore rfl rfl rfl ?_
    refine Ev.iconst (v := 0) rfl (by decide) ?_
    refine Ev.istore rfl rfl rfl ?_
    refine Ev.fg (L := [some (.ref y), none, some (.int (nI j)), some (.int (0 : Int32)), some (.int (nI (610 + 120 * i))), some (.int (nI ((tP T j).1))), some (.int (nI (((tP T j).1 + 1) ^ (tS T i).1))), some (.int (-1 : Int32)), some (.int (-1 : Int32)), some (.int (nI 0)), none]) ?_ (gs rfl (gn (gs rfl (gs rfl (gs rfl (gs rfl (gs rfl (gs rfl (gs rfl (gs (congrArg Value.int (rfl : (0 : Int32) = nI 0).symm) (gn gz)))))))))))
    refine lp (fun (k : Nat) (z : Int32 × Int32 × (Nat → Int32) × (Nat → Int32)) => ∀ τ' : ex_S, frm σ τ' y (y + 17) → τ'.2 (y + 1) = some (.inl (0, 4500, A)) → τ'.2 y = some (.inr (.inr (10, mo y g))) → τ'.2 (y + 8) = some (.inl (0, 6, z.2.2.1)) → τ'.2 (y + 9) = some (.inl (0, 16, z.2.2.2)) → (∀ q, q ≠ y + 8 → q ≠ y + 9 → τ'.2 q = σ.2 q) → Ev Γ 0 0 m_M_seats 0 0 112 [some (.ref y), none, some (.int (nI j)), some (.int (0 : Int32)), some (.int (nI (610 + 120 * i))), some (.int (nI ((tP T j).1))), some (.int (nI (((tP T j).1 + 1) ^ (tS T i).1))), some (.int z.1), some (.int z.2.1), some (.int (nI k)), none] [] τ' Q) (F_m_seats0_112 T i j g v_tried v_row) (((tP T j).1 + 1) ^ (tS T i).1) (fun k z hk hx => ?_) (((tP T j).1 + 1) ^ (tS T i).1) 0 ((-1 : Int32), (-1 : Int32), v_tried, v_row) (by omega) ?_ σ fr m1 m0 m_tried m_row kp
    · skip
      intro τ' fr m1 m0 m_tried m_row kp
      have hM : isM _ y g A := ⟨m0, m1⟩
      refine Ev.iload rfl rfl ?_
      refine Ev.iload rfl rfl ?_
      refine Ev.jge (tgt := 184) rfl (by decide) (fun c116 => absurd (nI_lt hk (by omega)) c116) (fun c116 => ?_)
      refine Ev.aload_n rfl rfl ?_
      refine Ev.iload rfl rfl ?_
      refine Ev.aload_n rfl rfl ?_
      refine Ev.getf rfl rfl m0 rfl ?_
      refine Ev.iload rfl rfl ?_
      refine Ev.ialdN (k := 610 + 120 * i) rfl m1 (nq_to (a := 610 + 120 * i) rfl (by omega)) ⟨(by omega), by decide⟩ ?_
      rw [hS.1]
      refine Ev.iload rfl rfl ?_
      refine Ev.xV3u rfl rfl m0 rfl rfl (by decide) ⟨(Nat.le_refl _), (Nat.le_refl _)⟩ (m_lays_ok hM hS hs hwS m_tried m_row (by omega) hn16 (by omega)) (fun τ1 f1 q1 => ?_)
      obtain ⟨m_tried, m_row, k1⟩ := q1
      have m1 := (k1 _ (by omega) (by omega)).trans m1
      have m0 := (k1 _ (by omega) (by omega)).trans m0
      have kp : (∀ q, q ≠ y + 8 → q ≠ y + 9 → τ1.2 q = σ.2 q) := fun q n0 n1 => (k1 q (by omega) (by omega)).trans (kp q n0 n1)
      have fr := fr.step f1 (by omega) (by omega)
      have hM : isM _ y g A := ⟨m0, m1⟩
      have hrow := lays_hrow (r0 := k) (L := (tS T i).1) (n := (tP T j).1) (g := g) (vt := z.2.2.1) (vr := z.2.2.2) hn16 (by omega) (by omega)
      have htr := lays_htr (S := tS T i) (r0 := k) (n := (tP T j).1) (g := g) (vt := z.2.2.1) (vr := z.2.2.2) hn16 (by omega) (by omega)
      refine Ev.aload_n rfl rfl ?_
      refine Ev.iload rfl rfl ?_
      refine Ev.iload_n rfl rfl ?_
      refine Ev.iload rfl rfl ?_
      refine Ev.cV3 rfl rfl m0 rfl rfl (by decide) ⟨(Nat.le_refl _), (Nat.le_refl _)⟩ (m_right_ok hM hS hs hwS hP hj3 hwP hgo m_tried m_row hrow) ?_
      refine Ev.zne (tgt := 149) rfl (by decide) (fun c143 => ?_) (fun c143 => ?_)
      · skip
        refine Ev.aload_n rfl rfl ?_
        refine Ev.iload rfl rfl ?_
        refine Ev.iload_n rfl rfl ?_
        refine Ev.iload rfl rfl ?_
        refine Ev.cV3 rfl rfl m0 rfl rfl (by decide) ⟨(Nat.le_refl _), (Nat.le_refl _)⟩ (m_ltried_ok hM hS hs hwS hP hj3 hwP hgo m_tried m_row htr) ?_
        refine Ev.istore rfl rfl rfl ?_
        refine Ev.iload rfl rfl ?_
        refine Ev.iload rfl rfl ?_
        refine Ev.jgt (tgt := 170) rfl (by decide) (fun c164 => ?_) (fun c164 => ?_)
        · skip
          refine Ev.iload rfl rfl ?_
          refine Ev.istore rfl rfl rfl ?_
          refine Ev.iload rfl rfl ?_
          refine Ev.istore rfl rfl rfl ?_
          refine Ev.iinc (d := 1) rfl rfl rfl (by decide) rfl ?_
          refine Ev.goto (tgt := 112) rfl (by decide) ?_
          have hF : (F_m_seats0_112 T i j g v_tried v_row) k z = (nI k, K_m_ltried (tS T i) (tP T j) ((K_m_lays k ((tS T i).1) ((tP T j).1) g z.2.2.1 z.2.2.2).1), (K_m_lays k ((tS T i).1) ((tP T j).1) g z.2.2.1 z.2.2.2).1, (K_m_lays k ((tS T i).1) ((tP T j).1) g z.2.2.1 z.2.2.2).2) := by
            unfold F_m_seats0_112
            rw [if_neg c143]
            rw [if_pos c164]
          rw [hF] at hx
          exact (hx τ1 fr m1 m0 m_tried m_row kp).fg (gs rfl (gn (gs rfl (gs rfl (gs rfl (gs rfl (gs rfl (gs rfl (gs rfl (gs (congrArg Value.int (show nI (k + 1) = (nI k) + (1 : Int32) from (nq_to (a := k + 1) (nq_add (a := k) (b := 1) rfl (rfl : (1 : Int32) = nI 1)) (by omega)).symm)) (gn gz)))))))))))
        · skip
          refine Ev.goto (tgt := 178) rfl (by decide) ?_
          refine Ev.iinc (d := 1) rfl rfl rfl (by decide) rfl ?_
          refine Ev.goto (tgt := 112) rfl (by decide) ?_
          have hF : (F_m_seats0_112 T i j g v_tried v_row) k z = (z.1, z.2.1, (K_m_lays k ((tS T i).1) ((tP T j).1) g z.2.2.1 z.2.2.2).1, (K_m_lays k ((tS T i).1) ((tP T j).1) g z.2.2.1 z.2.2.2).2) := by
            unfold F_m_seats0_112
            rw [if_neg c143]
            rw [if_neg c164]
          rw [hF] at hx
          exact (hx τ1 fr m1 m0 m_tried m_row kp).fg (gs rfl (gn (gs rfl (gs rfl (gs rfl (gs rfl (gs rfl (gs rfl (gs rfl (gs (congrArg Value.int (show nI (k + 1) = (nI k) + (1 : Int32) from (nq_to (a := k + 1) (nq_add (a := k) (b := 1) rfl (rfl : (1 : Int32) = nI 1)) (by omega)).symm)) (gn gz)))))))))))
      · skip
        refine Ev.goto (tgt := 178) rfl (by decide) ?_
        refine Ev.iinc (d := 1) rfl rfl rfl (by decide) rfl ?_
        refine Ev.goto (tgt := 112) rfl (by decide) ?_
        have hF : (F_m_seats0_112 T i j g v_tried v_row) k z = (z.1, z.2.1, (K_m_lays k ((tS T i).1) ((tP T j).1) g z.2.2.1 z.2.2.2).1, (K_m_lays k ((tS T i).1) ((tP T j).1) g z.2.2.1 z.2.2.2).2) := by
          unfold F_m_seats0_112
          rw [if_pos c143]
        rw [hF] at hx
        exact (hx τ1 fr m1 m0 m_tried m_row kp).fg (gs rfl (gn (gs rfl (gs rfl (gs rfl (gs rfl (gs rfl (gs rfl (gs rfl (gs (congrArg Value.int (show nI (k + 1) = (nI k) + (1 : Int32) from (nq_to (a := k + 1) (nq_add (a := k) (b := 1) rfl (rfl : (1 : Int32) = nI 1)) (by omega)).symm)) (gn gz)))))))))))
    · skip
      intro τ' fr m1 m0 m_tried m_row kp
      have hM : isM _ y g A := ⟨m0, m1⟩
      refine Ev.iload rfl rfl ?_
      refine Ev.iload rfl rfl ?_
      refine Ev.jge (tgt := 184) rfl (by decide) (fun c116 => ?_) (fun c116 => absurd c116 (nI_nlt (Nat.le_refl _) (by omega)))
      refine Ev.aload_n rfl rfl ?_
      refine Ev.iload rfl rfl ?_
      have hbst : (fo (F_m_seats0_112 T i j g v_tried v_row) (((tP T j).1 + 1) ^ (tS T i).1) 0 ((-1 : Int32), (-1 : Int32), v_tried, v_row)).1 = nI ((fo (F_m_seats0_112 T i j g v_tried v_row) (((tP T j).1 + 1) ^ (tS T i).1) 0 ((-1 : Int32), (-1 : Int32), v_tried, v_row)).1).toNatClampNeg ∧ ((fo (F_m_seats0_112 T i j g v_tried v_row) (((tP T j).1 + 1) ^ (tS T i).1) 0 ((-1 : Int32), (-1 : Int32), v_tried, v_row)).1).toNatClampNeg < ((tP T j).1 + 1) ^ (tS T i).1 := seats_nn (g := g) (fun _ _ => rfl) hwS hwP hs8 hp3
      rw [hbst.1]
      refine Ev.aload_n rfl rfl ?_
      refine Ev.getf rfl rfl m0 rfl ?_
      refine Ev.iload rfl rfl ?_
      refine Ev.ialdN (k := 610 + 120 * i) rfl m1 (nq_to (a := 610 + 120 * i) rfl (by omega)) ⟨(by omega), by decide⟩ ?_
      rw [hS.1]
      refine Ev.iload rfl rfl ?_
      refine Ev.xV3u rfl rfl m0 rfl rfl (by decide) ⟨(Nat.le_refl _), (Nat.le_refl _)⟩ (m_lays_ok hM hS hs hwS m_tried m_row (by omega) hn16 (by omega)) (fun τ2 f1 q1 => ?_)
      obtain ⟨m_tried, m_row, k1⟩ := q1
      have m1 := (k1 _ (by omega) (by omega)).trans m1
      have m0 := (k1 _ (by omega) (by omega)).trans m0
      have kp : (∀ q, q ≠ y + 8 → q ≠ y + 9 → τ2.2 q = σ.2 q) := fun q n0 n1 => (k1 q (by omega) (by omega)).trans (kp q n0 n1)
      have fr := fr.step f1 (by omega) (by omega)
      have hM : isM _ y g A := ⟨m0, m1⟩
      have hrow := lays_hrow (r0 := ((fo (F_m_seats0_112 T i j g v_tried v_row) (((tP T j).1 + 1) ^ (tS T i).1) 0 ((-1 : Int32), (-1 : Int32), v_tried, v_row)).1).toNatClampNeg) (L := (tS T i).1) (n := (tP T j).1) (g := g) (vt := ((fo (F_m_seats0_112 T i j g v_tried v_row) (((tP T j).1 + 1) ^ (tS T i).1) 0 ((-1 : Int32), (-1 : Int32), v_tried, v_row)).2.2.1)) (vr := ((fo (F_m_seats0_112 T i j g v_tried v_row) (((tP T j).1 + 1) ^ (tS T i).1) 0 ((-1 : Int32), (-1 : Int32), v_tried, v_row)).2.2.2)) hn16 (by omega) (by omega)
      have htr := lays_htr (S := tS T i) (r0 := ((fo (F_m_seats0_112 T i j g v_tried v_row) (((tP T j).1 + 1) ^ (tS T i).1) 0 ((-1 : Int32), (-1 : Int32), v_tried, v_row)).1).toNatClampNeg) (n := (tP T j).1) (g := g) (vt := ((fo (F_m_seats0_112 T i j g v_tried v_row) (((tP T j).1 + 1) ^ (tS T i).1) 0 ((-1 : Int32), (-1 : Int32), v_tried, v_row)).2.2.1)) (vr := ((fo (F_m_seats0_112 T i j g v_tried v_row) (((tP T j).1 + 1) ^ (tS T i).1) 0 ((-1 : Int32), (-1 : Int32), v_tried, v_row)).2.2.2)) hn16 (by omega) (by omega)
      refine Ev.iload_n rfl rfl ?_
      refine Ev.zne (tgt := 208) rfl (by decide) (fun c200 => absurd (by decide) c200) (fun c200 => ?_)
      refine Ev.iload rfl rfl ?_
      refine Ev.goto (tgt := 235) rfl (by decide) ?_
      refine Ev.iret (ty := .int) rfl rfl rfl (Nat.le_refl _) (Nat.le_refl _) ?_
      have hK : (K_m_seats0 T i j g v_tried v_row) = ((fo (F_m_seats0_112 T i j g v_tried v_row) (((tP T j).1 + 1) ^ (tS T i).1) 0 ((-1 : Int32), (-1 : Int32), v_tried, v_row)).2.1, (K_m_lays (((fo (F_m_seats0_112 T i j g v_tried v_row) (((tP T j).1 + 1) ^ (tS T i).1) 0 ((-1 : Int32), (-1 : Int32), v_tried, v_row)).1).toNatClampNeg) ((tS T i).1) ((tP T j).1) g ((fo (F_m_seats0_112 T i j g v_tried v_row) (((tP T j).1 + 1) ^ (tS T i).1) 0 ((-1 : Int32), (-1 : Int32), v_tried, v_row)).2.2.1) ((fo (F_m_seats0_112 T i j g v_tried v_row) (((tP T j).1 + 1) ^ (tS T i).1) 0 ((-1 : Int32), (-1 : Int32), v_tried, v_row)).2.2.2)).1, (K_m_lays (((fo (F_m_seats0_112 T i j g v_tried v_row) (((tP T j).1 + 1) ^ (tS T i).1) 0 ((-1 : Int32), (-1 : Int32), v_tried, v_row)).1).toNatClampNeg) ((tS T i).1) ((tP T j).1) g ((fo (F_m_seats0_112 T i j g v_tried v_row) (((tP T j).1 + 1) ^ (tS T i).1) 0 ((-1 : Int32), (-1 : Int32), v_tried, v_row)).2.2.1) ((fo (F_m_seats0_112 T i j g v_tried v_row) (((tP T j).1 + 1) ^ (tS T i).1) 0 ((-1 : Int32), (-1 : Int32), v_tried, v_row)).2.2.2)).2) := by rfl
      rw [← hQ]
      dsimp only
      rw [hK]
      exact ⟨rfl, fr, m_tried, m_row, kp⟩
def F_m_seatsL_76 (T : Tol) (i j : Nat) (l : Nat) (g : Nat → Int32) (v_tried : Nat → Int32) (v_row : Nat → Int32) : Nat → Int32 → Int32 := fun k z => z * ((nI ((tP T j).1)) + (1 : Int32))
def F_m_seatsL_112 (T : Tol) (i j : Nat) (l : Nat) (g : Nat → Int32) (v_tried : Nat → Int32) (v_row : Nat → Int32) : Nat → (Int32 × Int32 × (Nat → Int32) × (Nat → Int32)) → (Int32 × Int32 × (Nat → Int32) × (Nat → Int32)) := fun k z => if (K_m_right (tS T i) (tP T j) ((K_m_lays k ((tS T i).1) ((tP T j).1) g z.2.2.1 z.2.2.2).1) ((K_m_lays k ((tS T i).1) ((tP T j).1) g z.2.2.1 z.2.2.2).2)) = (0 : Int32) then (z.1, z.2.1, (K_m_lays k ((tS T i).1) ((tP T j).1) g z.2.2.1 z.2.2.2).1, (K_m_lays k ((tS T i).1) ((tP T j).1) g z.2.2.1 z.2.2.2).2) else (if z.2.1 < (K_m_ltried (tS T i) (tP T j) ((K_m_lays k ((tS T i).1) ((tP T j).1) g z.2.2.1 z.2.2.2).1)) then (nI k, K_m_ltried (tS T i) (tP T j) ((K_m_lays k ((tS T i).1) ((tP T j).1) g z.2.2.1 z.2.2.2).1), (K_m_lays k ((tS T i).1) ((tP T j).1) g z.2.2.1 z.2.2.2).1, (K_m_lays k ((tS T i).1) ((tP T j).1) g z.2.2.1 z.2.2.2).2) else (z.1, z.2.1, (K_m_lays k ((tS T i).1) ((tP T j).1) g z.2.2.1 z.2.2.2).1, (K_m_lays k ((tS T i).1) ((tP T j).1) g z.2.2.1 z.2.2.2).2))
def K_m_seatsL (T : Tol) (i j : Nat) (l : Nat) (g : Nat → Int32) (v_tried : Nat → Int32) (v_row : Nat → Int32) : Int32 × (Nat → Int32) × (Nat → Int32) := if (((K_m_lays (((fo (F_m_seatsL_112 T i j l g v_tried v_row) (((tP T j).1 + 1) ^ (tS T i).1) 0 ((-1 : Int32), (-1 : Int32), v_tried, v_row)).1).toNatClampNeg) ((tS T i).1) ((tP T j).1) g ((fo (F_m_seatsL_112 T i j l g v_tried v_row) (((tP T j).1 + 1) ^ (tS T i).1) 0 ((-1 : Int32), (-1 : Int32), v_tried, v_row)).2.2.1) ((fo (F_m_seatsL_112 T i j l g v_tried v_row) (((tP T j).1 + 1) ^ (tS T i).1) 0 ((-1 : Int32), (-1 : Int32), v_tried, v_row)).2.2.2)).2) ((10 + l) - 10)) = (nI ((tP T j).1)) then ((-1 : Int32), (K_m_lays (((fo (F_m_seatsL_112 T i j l g v_tried v_row) (((tP T j).1 + 1) ^ (tS T i).1) 0 ((-1 : Int32), (-1 : Int32), v_tried, v_row)).1).toNatClampNeg) ((tS T i).1) ((tP T j).1) g ((fo (F_m_seatsL_112 T i j l g v_tried v_row) (((tP T j).1 + 1) ^ (tS T i).1) 0 ((-1 : Int32), (-1 : Int32), v_tried, v_row)).2.2.1) ((fo (F_m_seatsL_112 T i j l g v_tried v_row) (((tP T j).1 + 1) ^ (tS T i).1) 0 ((-1 : Int32), (-1 : Int32), v_tried, v_row)).2.2.2)).1, (K_m_lays (((fo (F_m_seatsL_112 T i j l g v_tried v_row) (((tP T j).1 + 1) ^ (tS T i).1) 0 ((-1 : Int32), (-1 : Int32), v_tried, v_row)).1).toNatClampNeg) ((tS T i).1) ((tP T j).1) g ((fo (F_m_seatsL_112 T i j l g v_tried v_row) (((tP T j).1 + 1) ^ (tS T i).1) 0 ((-1 : Int32), (-1 : Int32), v_tried, v_row)).2.2.1) ((fo (F_m_seatsL_112 T i j l g v_tried v_row) (((tP T j).1 + 1) ^ (tS T i).1) 0 ((-1 : Int32), (-1 : Int32), v_tried, v_row)).2.2.2)).2) else (((K_m_lays (((fo (F_m_seatsL_112 T i j l g v_tried v_row) (((tP T j).1 + 1) ^ (tS T i).1) 0 ((-1 : Int32), (-1 : Int32), v_tried, v_row)).1).toNatClampNeg) ((tS T i).1) ((tP T j).1) g ((fo (F_m_seatsL_112 T i j l g v_tried v_row) (((tP T j).1 + 1) ^ (tS T i).1) 0 ((-1 : Int32), (-1 : Int32), v_tried, v_row)).2.2.1) ((fo (F_m_seatsL_112 T i j l g v_tried v_row) (((tP T j).1 + 1) ^ (tS T i).1) 0 ((-1 : Int32), (-1 : Int32), v_tried, v_row)).2.2.2)).2) ((10 + l) - 10), (K_m_lays (((fo (F_m_seatsL_112 T i j l g v_tried v_row) (((tP T j).1 + 1) ^ (tS T i).1) 0 ((-1 : Int32), (-1 : Int32), v_tried, v_row)).1).toNatClampNeg) ((tS T i).1) ((tP T j).1) g ((fo (F_m_seatsL_112 T i j l g v_tried v_row) (((tP T j).1 + 1) ^ (tS T i).1) 0 ((-1 : Int32), (-1 : Int32), v_tried, v_row)).2.2.1) ((fo (F_m_seatsL_112 T i j l g v_tried v_row) (((tP T j).1 + 1) ^ (tS T i).1) 0 ((-1 : Int32), (-1 : Int32), v_tried, v_row)).2.2.2)).1, (K_m_lays (((fo (F_m_seatsL_112 T i j l g v_tried v_row) (((tP T j).1 + 1) ^ (tS T i).1) 0 ((-1 : Int32), (-1 : Int32), v_tried, v_row)).1).toNatClampNeg) ((tS T i).1) ((tP T j).1) g ((fo (F_m_seatsL_112 T i j l g v_tried v_row) (((tP T j).1 + 1) ^ (tS T i).1) 0 ((-1 : Int32), (-1 : Int32), v_tried, v_row)).2.2.1) ((fo (F_m_seatsL_112 T i j l g v_tried v_row) (((tP T j).1 + 1) ^ (tS T i).1) 0 ((-1 : Int32), (-1 : Int32), v_tried, v_row)).2.2.2)).2)
theorem m_seatsL_some (hM : isM σ y g A) (hT : mT A 0 T) (hw : wT T)  {v_tried : Nat → Int32} (m_tried : σ.2 (y + 8) = some (.inl (0, 6, v_tried))) {v_row : Nat → Int32} (m_row : σ.2 (y + 9) = some (.inl (0, 16, v_row))) {u v : Int32} {i j : Nat} (hg : gd T u v i j) (hs8 : (tS T i).1 ≤ 8) (hp3 : (tP T j).1 ≤ 3) {l : Nat} (hl : l < (tS T i).1) : RetX Γ m_M_seats [(.ref y), .int u, .int v, (.int (nI (10 + l)))] σ y (y + 17) (some (.int ((K_m_seatsL T i j l g v_tried v_row).1))) (fun τ => τ.2 (y + 8) = some (.inl (0, 6, (K_m_seatsL T i j l g v_tried v_row).2.1)) ∧ τ.2 (y + 9) = some (.inl (0, 16, (K_m_seatsL T i j l g v_tried v_row).2.2)) ∧ (∀ q, q ≠ y + 8 → q ≠ y + 9 → τ.2 q = σ.2 q)) := by
  obtain ⟨m0, m1⟩ := id hM
  have hgd := hg
  obtain ⟨rfl, hi, rfl, hj, hgo⟩ := hg
  have hi3 : i < 3 := by have := hw.2.1; omega
  have hj3 : j < 3 := by have := hw.2.2.1; omega
  have hwS := hw.2.2.2.1 i hi
  have hwP := hw.2.2.2.2 j hj
  have hn16 := hwS.1
  have hn5 := hwS.2.1
  have h6 := hwP.1
  have hS := hT.s hi
  have hP := hT.p hj
  have hs : 610 + 120 * i + 120 ≤ 4500 := by omega
  have hrows := rows_le hp3 hs8
  unfold RetX
  generalize hQ : (fun (r : Option Value) (τ : ex_S) => r = some (.int ((K_m_seatsL T i j l g v_tried v_row).1)) ∧ frm σ τ y (y + 17) ∧ (fun τ : ex_S => τ.2 (y + 8) = some (.inl (0, 6, (K_m_seatsL T i j l g v_tried v_row).2.1)) ∧ τ.2 (y + 9) = some (.inl (0, 16, (K_m_seatsL T i j l g v_tried v_row).2.2)) ∧ (∀ q, q ≠ y + 8 → q ≠ y + 9 → τ.2 q = σ.2 q)) τ) = Q
  refine Ret.start pm_231 rfl ?_
  have fr : frm σ σ y (y + 17) := frm.rf
  have kp : (∀ q, q ≠ y + 8 → q ≠ y + 9 → σ.2 q = σ.2 q) := fun _ _ _ => rfl
  have hM : isM _ y g A := ⟨m0, m1⟩
  refine Ev.aload_n rfl rfl ?_
  refine Ev.iload_n rfl rfl ?_
  refine Ev.iload_n rfl rfl ?_
  refine Ev.cV2 rfl rfl m0 rfl rfl (by decide) ⟨(Nat.le_refl _), (Nat.le_refl _)⟩ (m_goes_yes hM hT hw hgd) ?_
  refine Ev.zne (tgt := 12) rfl (by decide) (fun c6 => ?_) (fun c6 => absurd c6 (by decide))
  refine Ev.iconst (v := 0) rfl (by decide) ?_
  refine Ev.iload_n rfl rfl ?_
  refine Ev.cS2 rfl rfl rfl (by decide) ⟨(Nat.le_refl _), (Nat.le_refl _)⟩ (m_pl0_ok i) ?_
  refine Ev.istore rfl rfl rfl ?_
  refine Ev.aload_n rfl rfl ?_
  refine Ev.iload_n rfl rfl ?_
  refine Ev.cV1 rfl rfl m0 rfl rfl (by decide) ⟨(Nat.le_refl _), (Nat.le_refl _)⟩ (m_classes_ok hM hP hj3 h6) ?_
  refine Ev.istore rfl rfl rfl ?_
  refine Ev.aload_n rfl rfl ?_
  refine Ev.getf rfl rfl m0 rfl ?_
  refine Ev.iload rfl rfl ?_
  refine Ev.ialdN (k := 610 + 120 * i) rfl m1 (nq_to (a := 610 + 120 * i) rfl (by omega)) ⟨(by omega), by decide⟩ ?_
  rw [hS.1]
  refine Ev.bipush (v := 8) rfl (by decide) ?_
  refine Ev.jgt (tgt := 67) rfl (by decide) (fun c35 => absurd c35 (nI_nlt (a := 8) hs8 (by omega))) (fun c35 => ?_)
  refine Ev.iload rfl rfl ?_
  refine Ev.iconst (v := 3) rfl (by decide) ?_
  refine Ev.jgt (tgt := 67) rfl (by decide) (fun c41 => absurd c41 (nI_nlt (a := 3) hp3 (by omega))) (fun c41 => ?_)
  refine Ev.iload_n rfl rfl ?_
  refine Ev.zeq (tgt := 70) rfl (by decide) (fun c45 => absurd c45 (n10 (l := l) (by omega))) (fun c45 => ?_)
  refine Ev.iload_n rfl rfl ?_
  refine Ev.bipush (v := 10) rfl (by decide) ?_
  refine Ev.bipush (v := 9) rfl (by decide) ?_
  refine Ev.aload_n rfl rfl ?_
  refine Ev.getf rfl rfl m0 rfl ?_
  refine Ev.iload rfl rfl ?_
  refine Ev.ialdN (k := 610 + 120 * i) rfl m1 (nq_to (a := 610 + 120 * i) rfl (by omega)) ⟨(by omega), by decide⟩ ?_
  rw [hS.1]
  refine Ev.iadd rfl ?_
  refine Ev.cS3 rfl rfl rfl (by decide) ⟨(Nat.le_refl _), (Nat.le_refl _)⟩ (m_in_y (K_in10 hl hn16)) ?_
  refine Ev.zne (tgt := 70) rfl (by decide) (fun c64 => ?_) (fun c64 => absurd c64 (by decide))
  refine Ev.iconst (v := 1) rfl (by decide) ?_
  refine Ev.istore rfl rfl rfl ?_
  refine Ev.iconst (v := 0) rfl (by decide) ?_
  refine Ev.istore rfl rfl rfl ?_
  refine Ev.fg (L := [some (.ref y), none, some (.int (nI j)), some (.int (nI (10 + l))), some (.int (nI (610 + 120 * i))), some (.int (nI ((tP T j).1))), some (.int (1 : Int32)), some (.int (nI 0)), none, none, none]) ?_ (gs rfl (gn (gs rfl (gs rfl (gs rfl (gs rfl (gs rfl (gs (congrArg Value.int (rfl : (0 : Int32) = nI 0).symm) (gn (gn (gn gz)))))))))))
  refine lp (fun (k : Nat) (z : Int32) => Ev Γ 0 0 m_M_seats 0 0 76 [some (.ref y), none, some (.int (nI j)), some (.int (nI (10 + l))), some (.int (nI (610 + 120 * i))), some (.int (nI ((tP T j).1))), some (.int z), some (.int (nI k)), none, none, none] [] σ Q) (F_m_seatsL_76 T i j l g v_tried v_row) ((tS T i).1) (fun k z hk hx => ?_) ((tS T i).1) 0 (1 : Int32) (by omega) ?_
  · skip
    refine Ev.iload rfl rfl ?_
    refine Ev.aload_n rfl rfl ?_
    refine Ev.getf rfl rfl m0 rfl ?_
    refine Ev.iload rfl rfl ?_
    refine Ev.ialdN (k := 610 + 120 * i) rfl m1 (nq_to (a := 610 + 120 * i) rfl (by omega)) ⟨(by omega), by decide⟩ ?_
    rw [hS.1]
    refine Ev.jge (tgt := 103) rfl (by decide) (fun c85 => absurd (nI_lt hk (by omega)) c85) (fun c85 => ?_)
    refine Ev.iload rfl rfl ?_
    refine Ev.iload rfl rfl ?_
    refine Ev.iconst (v := 1) rfl (by decide) ?_
    refine Ev.iadd rfl ?_
    refine Ev.imul rfl ?_
    refine Ev.istore rfl rfl rfl ?_
    refine Ev.iinc (d := 1) rfl rfl rfl (by decide) rfl ?_
    refine Ev.goto (tgt := 76) rfl (by decide) ?_
    have hF : (F_m_seatsL_76 T i j l g v_tried v_row) k z = z * ((nI ((tP T j).1)) + (1 : Int32)) := by rfl
    rw [hF] at hx
    exact hx.fg (gs rfl (gn (gs rfl (gs rfl (gs rfl (gs rfl (gs rfl (gs (congrArg Value.int (show nI (k + 1) = (nI k) + (1 : Int32) from (nq_to (a := k + 1) (nq_add (a := k) (b := 1) rfl (rfl : (1 : Int32) = nI 1)) (by omega)).symm)) (gn (gn (gn gz)))))))))))
  · skip
    refine Ev.iload rfl rfl ?_
    refine Ev.aload_n rfl rfl ?_
    refine Ev.getf rfl rfl m0 rfl ?_
    refine Ev.iload rfl rfl ?_
    refine Ev.ialdN (k := 610 + 120 * i) rfl m1 (nq_to (a := 610 + 120 * i) rfl (by omega)) ⟨(by omega), by decide⟩ ?_
    rw [hS.1]
    refine Ev.jge (tgt := 103) rfl (by decide) (fun c85 => ?_) (fun c85 => absurd c85 (nI_nlt (Nat.le_refl _) (by omega)))
    rw [show (fo (F_m_seatsL_76 T i j l g v_tried v_row) ((tS T i).1) 0 (1 : Int32)) = nI (((tP T j).1 + 1) ^ (tS T i).1) from rows_fo (fun _ _ => rfl) _]
    refine Ev.iconst (v := (-1)) rfl (by decide) ?_
    refine Ev.istore rfl rfl rfl ?_
    refine Ev.iconst (v := (-1)) rfl (by decide) ?_
    refine Ev.istore rfl rfl rfl ?_
    refine Ev.iconst (v := 0) rfl (by decide) ?_
    refine Ev.istore rfl rfl rfl ?_
    refine Ev.fg (L := [some (.ref y), none, some (.int (nI j)), some (.int (nI (10 + l))), some (.int (nI (610 + 120 * i))), some (.int (nI ((tP T j).1))), some (.int (nI (((tP T j).1 + 1) ^ (tS T i).1))), some (.int (-1 : Int32)), some (.int (-1 : Int32)), some (.int (nI 0)), none]) ?_ (gs rfl (gn (gs rfl (gs rfl (gs rfl (gs rfl (gs rfl (gs rfl (gs rfl (gs (congrArg Value.int (rfl : (0 : Int32) = nI 0).symm) (gn gz)))))))))))
    refine lp (fun (k : Nat) (z : Int32 × Int32 × (Nat → Int32) × (Nat → Int32)) => ∀ τ' : ex_S, frm σ τ' y (y + 17) → τ'.2 (y + 1) = some (.inl (0, 4500, A)) → τ'.2 y = some (.inr (.inr (10, mo y g))) → τ'.2 (y + 8) = some (.inl (0, 6, z.2.2.1)) → τ'.2 (y + 9) = some (.inl (0, 16, z.2.2.2)) → (∀ q, q ≠ y + 8 → q ≠ y + 9 → τ'.2 q = σ.2 q) → Ev Γ 0 0 m_M_seats 0 0 112 [some (.ref y), none, some (.int (nI j)), some (.int (nI (10 + l))), some (.int (nI (610 + 120 * i))), some (.int (nI ((tP T j).1))), some (.int (nI (((tP T j).1 + 1) ^ (tS T i).1))), some (.int z.1), some (.int z.2.1), some (.int (nI k)), none] [] τ' Q) (F_m_seatsL_112 T i j l g v_tried v_row) (((tP T j).1 + 1) ^ (tS T i).1) (fun k z hk hx => ?_) (((tP T j).1 + 1) ^ (tS T i).1) 0 ((-1 : Int32), (-1 : Int32), v_tried, v_row) (by omega) ?_ σ fr m1 m0 m_tried m_row kp
    · skip
      intro τ' fr m1 m0 m_tried m_row kp
      have hM : isM _ y g A := ⟨m0, m1⟩
      refine Ev.iload rfl rfl ?_
      refine Ev.iload rfl rfl ?_
      refine Ev.jge (tgt := 184) rfl (by decide) (fun c116 => absurd (nI_lt hk (by omega)) c116) (fun c116 => ?_)
      refine Ev.aload_n rfl rfl ?_
      refine Ev.iload rfl rfl ?_
      refine Ev.aload_n rfl rfl ?_
      refine Ev.getf rfl rfl m0 rfl ?_
      refine Ev.iload rfl rfl ?_
      refine Ev.ialdN (k := 610 + 120 * i) rfl m1 (nq_to (a := 610 + 120 * i) rfl (by omega)) ⟨(by omega), by decide⟩ ?_
      rw [hS.1]
      refine Ev.iload rfl rfl ?_
      refine Ev.xV3u rfl rfl m0 rfl rfl (by decide) ⟨(Nat.le_refl _), (Nat.le_refl _)⟩ (m_lays_ok hM hS hs hwS m_tried m_row (by omega) hn16 (by omega)) (fun τ1 f1 q1 => ?_)
      obtain ⟨m_tried, m_row, k1⟩ := q1
      have m1 := (k1 _ (by omega) (by omega)).trans m1
      have m0 := (k1 _ (by omega) (by omega)).trans m0
      have kp : (∀ q, q ≠ y + 8 → q ≠ y + 9 → τ1.2 q = σ.2 q) := fun q n0 n1 => (k1 q (by omega) (by omega)).trans (kp q n0 n1)
      have fr := fr.step f1 (by omega) (by omega)
      have hM : isM _ y g A := ⟨m0, m1⟩
      have hrow := lays_hrow (r0 := k) (L := (tS T i).1) (n := (tP T j).1) (g := g) (vt := z.2.2.1) (vr := z.2.2.2) hn16 (by omega) (by omega)
      have htr := lays_htr (S := tS T i) (r0 := k) (n := (tP T j).1) (g := g) (vt := z.2.2.1) (vr := z.2.2.2) hn16 (by omega) (by omega)
      refine Ev.aload_n rfl rfl ?_
      refine Ev.iload rfl rfl ?_
      refine Ev.iload_n rfl rfl ?_
      refine Ev.iload rfl rfl ?_
      refine Ev.cV3 rfl rfl m0 rfl rfl (by decide) ⟨(Nat.le_refl _), (Nat.le_refl _)⟩ (m_right_ok hM hS hs hwS hP hj3 hwP hgo m_tried m_row hrow) ?_
      refine Ev.zne (tgt := 149) rfl (by decide) (fun c143 => ?_) (fun c143 => ?_)
      · skip
        refine Ev.aload_n rfl rfl ?_
        refine Ev.iload rfl rfl ?_
        refine Ev.iload_n rfl rfl ?_
        refine Ev.iload rfl rfl ?_
        refine Ev.cV3 rfl rfl m0 rfl rfl (by decide) ⟨(Nat.le_refl _), (Nat.le_refl _)⟩ (m_ltried_ok hM hS hs hwS hP hj3 hwP hgo m_tried m_row htr) ?_
        refine Ev.istore rfl rfl rfl ?_
        refine Ev.iload rfl rfl ?_
        refine Ev.iload rfl rfl ?_
        refine Ev.jgt (tgt := 170) rfl (by decide) (fun c164 => ?_) (fun c164 => ?_)
        · skip
          refine Ev.iload rfl rfl ?_
          refine Ev.istore rfl rfl rfl ?_
          refine Ev.iload rfl rfl ?_
          refine Ev.istore rfl rfl rfl ?_
          refine Ev.iinc (d := 1) rfl rfl rfl (by decide) rfl ?_
          refine Ev.goto (tgt := 112) rfl (by decide) ?_
          have hF : (F_m_seatsL_112 T i j l g v_tried v_row) k z = (nI k, K_m_ltried (tS T i) (tP T j) ((K_m_lays k ((tS T i).1) ((tP T j).1) g z.2.2.1 z.2.2.2).1), (K_m_lays k ((tS T i).1) ((tP T j).1) g z.2.2.1 z.2.2.2).1, (K_m_lays k ((tS T i).1) ((tP T j).1) g z.2.2.1 z.2.2.2).2) := by
            unfold F_m_seatsL_112
            rw [if_neg c143]
            rw [if_pos c164]
          rw [hF] at hx
          exact (hx τ1 fr m1 m0 m_tried m_row kp).fg (gs rfl (gn (gs rfl (gs rfl (gs rfl (gs rfl (gs rfl (gs rfl (gs rfl (gs (congrArg Value.int (show nI (k + 1) = (nI k) + (1 : Int32) from (nq_to (a := k + 1) (nq_add (a := k) (b := 1) rfl (rfl : (1 : Int32) = nI 1)) (by omega)).symm)) (gn gz)))))))))))
        · skip
          refine Ev.goto (tgt := 178) rfl (by decide) ?_
          refine Ev.iinc (d := 1) rfl rfl rfl (by decide) rfl ?_
          refine Ev.goto (tgt := 112) rfl (by decide) ?_
          have hF : (F_m_seatsL_112 T i j l g v_tried v_row) k z = (z.1, z.2.1, (K_m_lays k ((tS T i).1) ((tP T j).1) g z.2.2.1 z.2.2.2).1, (K_m_lays k ((tS T i).1) ((tP T j).1) g z.2.2.1 z.2.2.2).2) := by
            unfold F_m_seatsL_112
            rw [if_neg c143]
            rw [if_neg c164]
          rw [hF] at hx
          exact (hx τ1 fr m1 m0 m_tried m_row kp).fg (gs rfl (gn (gs rfl (gs rfl (gs rfl (gs rfl (gs rfl (gs rfl (gs rfl (gs (congrArg Value.int (show nI (k + 1) = (nI k) + (1 : Int32) from (nq_to (a := k + 1) (nq_add (a := k) (b := 1) rfl (rfl : (1 : Int32) = nI 1)) (by omega)).symm)) (gn gz)))))))))))
      · skip
        refine Ev.goto (tgt := 178) rfl (by decide) ?_
        refine Ev.iinc (d := 1) rfl rfl rfl (by decide) rfl ?_
        refine Ev.goto (tgt := 112) rfl (by decide) ?_
        have hF : (F_m_seatsL_112 T i j l g v_tried v_row) k z = (z.1, z.2.1, (K_m_lays k ((tS T i).1) ((tP T j).1) g z.2.2.1 z.2.2.2).1, (K_m_lays k ((tS T i).1) ((tP T j).1) g z.2.2.1 z.2.2.2).2) := by
          unfold F_m_seatsL_112
          rw [if_pos c143]
        rw [hF] at hx
        exact (hx τ1 fr m1 m0 m_tried m_row kp).fg (gs rfl (gn (gs rfl (gs rfl (gs rfl (gs rfl (gs rfl (gs rfl (gs rfl (gs (congrArg Value.int (show nI (k + 1) = (nI k) + (1 : Int32) from (nq_to (a := k + 1) (nq_add (a := k) (b := 1) rfl (rfl : (1 : Int32) = nI 1)) (by omega)).symm)) (gn gz)))))))))))
    · skip
      intro τ' fr m1 m0 m_tried m_row kp
      have hM : isM _ y g A := ⟨m0, m1⟩
      refine Ev.iload rfl rfl ?_
      refine Ev.iload rfl rfl ?_
      refine Ev.jge (tgt := 184) rfl (by decide) (fun c116 => ?_) (fun c116 => absurd c116 (nI_nlt (Nat.le_refl _) (by omega)))
      refine Ev.aload_n rfl rfl ?_
      refine Ev.iload rfl rfl ?_
      have hbst : (fo (F_m_seatsL_112 T i j l g v_tried v_row) (((tP T j).1 + 1) ^ (tS T i).1) 0 ((-1 : Int32), (-1 : Int32), v_tried, v_row)).1 = nI ((fo (F_m_seatsL_112 T i j l g v_tried v_row) (((tP T j).1 + 1) ^ (tS T i).1) 0 ((-1 : Int32), (-1 : Int32), v_tried, v_row)).1).toNatClampNeg ∧ ((fo (F_m_seatsL_112 T i j l g v_tried v_row) (((tP T j).1 + 1) ^ (tS T i).1) 0 ((-1 : Int32), (-1 : Int32), v_tried, v_row)).1).toNatClampNeg < ((tP T j).1 + 1) ^ (tS T i).1 := seats_nn (g := g) (fun _ _ => rfl) hwS hwP hs8 hp3
      rw [hbst.1]
      refine Ev.aload_n rfl rfl ?_
      refine Ev.getf rfl rfl m0 rfl ?_
      refine Ev.iload rfl rfl ?_
      refine Ev.ialdN (k := 610 + 120 * i) rfl m1 (nq_to (a := 610 + 120 * i) rfl (by omega)) ⟨(by omega), by decide⟩ ?_
      rw [hS.1]
      refine Ev.iload rfl rfl ?_
      refine Ev.xV3u rfl rfl m0 rfl rfl (by decide) ⟨(Nat.le_refl _), (Nat.le_refl _)⟩ (m_lays_ok hM hS hs hwS m_tried m_row (by omega) hn16 (by omega)) (fun τ2 f1 q1 => ?_)
      obtain ⟨m_tried, m_row, k1⟩ := q1
      have m1 := (k1 _ (by omega) (by omega)).trans m1
      have m0 := (k1 _ (by omega) (by omega)).trans m0
      have kp : (∀ q, q ≠ y + 8 → q ≠ y + 9 → τ2.2 q = σ.2 q) := fun q n0 n1 => (k1 q (by omega) (by omega)).trans (kp q n0 n1)
      have fr := fr.step f1 (by omega) (by omega)
      have hM : isM _ y g A := ⟨m0, m1⟩
      have hrow := lays_hrow (r0 := ((fo (F_m_seatsL_112 T i j l g v_tried v_row) (((tP T j).1 + 1) ^ (tS T i).1) 0 ((-1 : Int32), (-1 : Int32), v_tried, v_row)).1).toNatClampNeg) (L := (tS T i).1) (n := (tP T j).1) (g := g) (vt := ((fo (F_m_seatsL_112 T i j l g v_tried v_row) (((tP T j).1 + 1) ^ (tS T i).1) 0 ((-1 : Int32), (-1 : Int32), v_tried, v_row)).2.2.1)) (vr := ((fo (F_m_seatsL_112 T i j l g v_tried v_row) (((tP T j).1 + 1) ^ (tS T i).1) 0 ((-1 : Int32), (-1 : Int32), v_tried, v_row)).2.2.2)) hn16 (by omega) (by omega)
      have htr := lays_htr (S := tS T i) (r0 := ((fo (F_m_seatsL_112 T i j l g v_tried v_row) (((tP T j).1 + 1) ^ (tS T i).1) 0 ((-1 : Int32), (-1 : Int32), v_tried, v_row)).1).toNatClampNeg) (n := (tP T j).1) (g := g) (vt := ((fo (F_m_seatsL_112 T i j l g v_tried v_row) (((tP T j).1 + 1) ^ (tS T i).1) 0 ((-1 : Int32), (-1 : Int32), v_tried, v_row)).2.2.1)) (vr := ((fo (F_m_seatsL_112 T i j l g v_tried v_row) (((tP T j).1 + 1) ^ (tS T i).1) 0 ((-1 : Int32), (-1 : Int32), v_tried, v_row)).2.2.2)) hn16 (by omega) (by omega)
      refine Ev.iload_n rfl rfl ?_
      refine Ev.zne (tgt := 208) rfl (by decide) (fun c200 => ?_) (fun c200 => absurd c200 (n10 (l := l) (by omega)))
      refine Ev.aload_n rfl rfl ?_
      refine Ev.getf rfl rfl m0 rfl ?_
      refine Ev.iload_n rfl rfl ?_
      refine Ev.bipush (v := 10) rfl (by decide) ?_
      refine Ev.isub rfl ?_
      refine Ev.ialdN (k := (10 + l) - 10) rfl m_row (nq_sub (a := 10 + l) (b := 10) rfl (rfl : (10 : Int32) = nI 10) (by omega)) ⟨(by omega), by decide⟩ ?_
      refine Ev.iload rfl rfl ?_
      refine Ev.jne (tgt := 226) rfl (by decide) (fun c219 => ?_) (fun c219 => ?_)
      · skip
        refine Ev.aload_n rfl rfl ?_
        refine Ev.getf rfl rfl m0 rfl ?_
        refine Ev.iload_n rfl rfl ?_
        refine Ev.bipush (v := 10) rfl (by decide) ?_
        refine Ev.isub rfl ?_
        refine Ev.ialdN (k := (10 + l) - 10) rfl m_row (nq_sub (a := 10 + l) (b := 10) rfl (rfl : (10 : Int32) = nI 10) (by omega)) ⟨(by omega), by decide⟩ ?_
        refine Ev.iret (ty := .int) rfl rfl rfl (Nat.le_refl _) (Nat.le_refl _) ?_
        have hK : (K_m_seatsL T i j l g v_tried v_row) = (((K_m_lays (((fo (F_m_seatsL_112 T i j l g v_tried v_row) (((tP T j).1 + 1) ^ (tS T i).1) 0 ((-1 : Int32), (-1 : Int32), v_tried, v_row)).1).toNatClampNeg) ((tS T i).1) ((tP T j).1) g ((fo (F_m_seatsL_112 T i j l g v_tried v_row) (((tP T j).1 + 1) ^ (tS T i).1) 0 ((-1 : Int32), (-1 : Int32), v_tried, v_row)).2.2.1) ((fo (F_m_seatsL_112 T i j l g v_tried v_row) (((tP T j).1 + 1) ^ (tS T i).1) 0 ((-1 : Int32), (-1 : Int32), v_tried, v_row)).2.2.2)).2) ((10 + l) - 10), (K_m_lays (((fo (F_m_seatsL_112 T i j l g v_tried v_row) (((tP T j).1 + 1) ^ (tS T i).1) 0 ((-1 : Int32), (-1 : Int32), v_tried, v_row)).1).toNatClampNeg) ((tS T i).1) ((tP T j).1) g ((fo (F_m_seatsL_112 T i j l g v_tried v_row) (((tP T j).1 + 1) ^ (tS T i).1) 0 ((-1 : Int32), (-1 : Int32), v_tried, v_row)).2.2.1) ((fo (F_m_seatsL_112 T i j l g v_tried v_row) (((tP T j).1 + 1) ^ (tS T i).1) 0 ((-1 : Int32), (-1 : Int32), v_tried, v_row)).2.2.2)).1, (K_m_lays (((fo (F_m_seatsL_112 T i j l g v_tried v_row) (((tP T j).1 + 1) ^ (tS T i).1) 0 ((-1 : Int32), (-1 : Int32), v_tried, v_row)).1).toNatClampNeg) ((tS T i).1) ((tP T j).1) g ((fo (F_m_seatsL_112 T i j l g v_tried v_row) (((tP T j).1 + 1) ^ (tS T i).1) 0 ((-1 : Int32), (-1 : Int32), v_tried, v_row)).2.2.1) ((fo (F_m_seatsL_112 T i j l g v_tried v_row) (((tP T j).1 + 1) ^ (tS T i).1) 0 ((-1 : Int32), (-1 : Int32), v_tried, v_row)).2.2.2)).2) := by
          unfold K_m_seatsL
          rw [if_neg c219]
        rw [← hQ]
        dsimp only
        rw [hK]
        exact ⟨rfl, fr, m_tried, m_row, kp⟩
      · skip
        refine Ev.iconst (v := (-1)) rfl (by decide) ?_
        refine Ev.goto (tgt := 235) rfl (by decide) ?_
        refine Ev.iret (ty := .int) rfl rfl rfl (Nat.le_refl _) (Nat.le_refl _) ?_
        have hK : (K_m_seatsL T i j l g v_tried v_row) = ((-1 : Int32), (K_m_lays (((fo (F_m_seatsL_112 T i j l g v_tried v_row) (((tP T j).1 + 1) ^ (tS T i).1) 0 ((-1 : Int32), (-1 : Int32), v_tried, v_row)).1).toNatClampNeg) ((tS T i).1) ((tP T j).1) g ((fo (F_m_seatsL_112 T i j l g v_tried v_row) (((tP T j).1 + 1) ^ (tS T i).1) 0 ((-1 : Int32), (-1 : Int32), v_tried, v_row)).2.2.1) ((fo (F_m_seatsL_112 T i j l g v_tried v_row) (((tP T j).1 + 1) ^ (tS T i).1) 0 ((-1 : Int32), (-1 : Int32), v_tried, v_row)).2.2.2)).1, (K_m_lays (((fo (F_m_seatsL_112 T i j l g v_tried v_row) (((tP T j).1 + 1) ^ (tS T i).1) 0 ((-1 : Int32), (-1 : Int32), v_tried, v_row)).1).toNatClampNeg) ((tS T i).1) ((tP T j).1) g ((fo (F_m_seatsL_112 T i j l g v_tried v_row) (((tP T j).1 + 1) ^ (tS T i).1) 0 ((-1 : Int32), (-1 : Int32), v_tried, v_row)).2.2.1) ((fo (F_m_seatsL_112 T i j l g v_tried v_row) (((tP T j).1 + 1) ^ (tS T i).1) 0 ((-1 : Int32), (-1 : Int32), v_tried, v_row)).2.2.2)).2) := by
          unfold K_m_seatsL
          rw [if_pos c219]
        rw [← hQ]
        dsimp only
        rw [hK]
        exact ⟨rfl, fr, m_tried, m_row, kp⟩
end
end
