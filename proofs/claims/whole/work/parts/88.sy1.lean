/-! The reference shares seats out: rows of classes as numbers (printed by sym.py). -/
noncomputable section
theorem nq_div {x y : Int32} {a b : Nat} (hx : x = nI a) (hy : y = nI b) (ha : a < 2 ^ 31) (h0 : 0 < b) (hb : b < 2 ^ 31) : x / y = nI (a / b) := by subst hx; subst hy; exact pk_div ha h0 hb
theorem nq_rem {x y : Int32} {a b : Nat} (hx : x = nI a) (hy : y = nI b) (ha : a < 2 ^ 31) (h0 : 0 < b) (hb : b < 2 ^ 31) : x - x / y * y = nI (a % b) := by subst hx; subst hy; exact pk_rem ha h0 hb
theorem np1 {n : Nat} (h : n < 1000) : ¬ nI n + 1 = 0 := by
  rw [show (1 : Int32) = nI 1 from rfl, nI_add]
  intro e
  have := nI_injL (b := 0) (by omega) (by omega) e
  omega
theorem down_eq {L k : Nat} (h : k < L) (_ : L < 1000) : nI (L - 1 - k) = nI (L - k) - 1 := by
  have e : L - k = (L - 1 - k) + 1 := by omega
  rw [e, nI_pred]
theorem down_back {L k : Nat} (h : k < L) (_ : L < 1000) : nI (L - (k + 1)) - 1 = nI (L - 1 - k) + (-1 : Int32) := by
  have e : L - (k + 1) = L - 1 - k := by omega
  rw [e, Int32.sub_eq_add_neg]
theorem down_lt (L : Nat) : nI (L - L) - 1 < 0 := by
  rw [Nat.sub_self]
  decide
section
variable {Γ : ex_G} {σ : ex_S} {x q a p y : Nat} {S : Sch} {T : Tol} {P : Pln} {g A : Nat → Int32}
def F_m_lays_6 (r0 L n : Nat) (g : Nat → Int32) (v_tried : Nat → Int32) (v_row : Nat → Int32) : Nat → (Nat → Int32) → (Nat → Int32) := fun k z => (upd z k (0 : Int32))
def F_m_lays_31 (r0 L n : Nat) (g : Nat → Int32) (v_tried : Nat → Int32) (v_row : Nat → Int32) : Nat → (Nat × (Nat → Int32) × (Nat → Int32)) → (Nat × (Nat → Int32) × (Nat → Int32)) := fun k z => if (nI (z.1 % (n + 1))) < (nI n) then (z.1 / (n + 1), (upd z.2.1 (z.1 % (n + 1)) ((z.2.1 (z.1 % (n + 1))) ||| ((1 : Int32) <<< ((nI (L - 1 - k)) &&& 31)))), (upd z.2.2 (L - 1 - k) (nI (z.1 % (n + 1))))) else (z.1 / (n + 1), z.2.1, (upd z.2.2 (L - 1 - k) (nI (z.1 % (n + 1)))))
def K_m_lays (r0 L n : Nat) (g : Nat → Int32) (v_tried : Nat → Int32) (v_row : Nat → Int32) : (Nat → Int32) × (Nat → Int32) := ((fo (F_m_lays_31 r0 L n g v_tried v_row) (L) 0 (r0, (fo (F_m_lays_6 r0 L n g v_tried v_row) (n) 0 v_tried), v_row)).2.1, (fo (F_m_lays_31 r0 L n g v_tried v_row) (L) 0 (r0, (fo (F_m_lays_6 r0 L n g v_tried v_row) (n) 0 v_tried), v_row)).2.2)
theorem m_lays_ok (hM : isM σ y g A) {s : Nat} (hS : mS A s S) (hs : s + 120 ≤ 4500) (hwS : wS S) {v_tried : Nat → Int32} (m_tried : σ.2 (y + 8) = some (.inl (0, 6, v_tried))) {v_row : Nat → Int32} (m_row : σ.2 (y + 9) = some (.inl (0, 16, v_row))) {r0 L n : Nat} (hr0 : r0 < 2 ^ 31) (hL : L ≤ 16) (hn6 : n ≤ 6) : RetX Γ m_M_laysOut [(.ref y), (.int (nI r0)), (.int (nI L)), (.int (nI n))] σ y (y + 17) none (fun τ => τ.2 (y + 8) = some (.inl (0, 6, (K_m_lays r0 L n g v_tried v_row).1)) ∧ τ.2 (y + 9) = some (.inl (0, 16, (K_m_lays r0 L n g v_tried v_row).2)) ∧ (∀ q, q ≠ y + 8 → q ≠ y + 9 → τ.2 q = σ.2 q)) := by
  obtain ⟨m0, m1⟩ := id hM
  have hn16 := hwS.1
  have hn5 := hwS.2.1
  unfold RetX
  generalize hQ : (fun (r : Option Value) (τ : ex_S) => r = none ∧ frm σ τ y (y + 17) ∧ (fun τ : ex_S => τ.2 (y + 8) = some (.inl (0, 6, (K_m_lays r0 L n g v_tried v_row).1)) ∧ τ.2 (y + 9) = some (.inl (0, 16, (K_m_lays r0 L n g v_tried v_row).2)) ∧ (∀ q, q ≠ y + 8 → q ≠ y + 9 → τ.2 q = σ.2 q)) τ) = Q
  refine Ret.start pm_229 rfl ?_
  have fr : frm σ σ y (y + 17) := frm.rf
  have kp : (∀ q, q ≠ y + 8 → q ≠ y + 9 → σ.2 q = σ.2 q) := fun _ _ _ => rfl
  have hM : isM _ y g A := ⟨m0, m1⟩
  refine Ev.iload_n rfl rfl ?_
  refine Ev.istore rfl rfl rfl ?_
  refine Ev.iconst (v := 0) rfl (by decide) ?_
  refine Ev.istore rfl rfl rfl ?_
  refine Ev.fg (L := [some (.ref y), none, some (.int (nI L)), some (.int (nI n)), some (.int (nI r0)), some (.int (nI 0))]) ?_ (gs rfl (gn (gs rfl (gs rfl (gs rfl (gs (congrArg Value.int (rfl : (0 : Int32) = nI 0).symm) gz))))))
  refine lp (fun (k : Nat) (z : (Nat → Int32)) => ∀ τ' : ex_S, frm σ τ' y (y + 17) → τ'.2 (y + 1) = some (.inl (0, 4500, A)) → τ'.2 y = some (.inr (.inr (10, mo y g))) → τ'.2 (y + 8) = some (.inl (0, 6, z)) → τ'.2 (y + 9) = some (.inl (0, 16, v_row)) → (∀ q, q ≠ y + 8 → q ≠ y + 9 → τ'.2 q = σ.2 q) → Ev Γ 0 0 m_M_laysOut 0 0 6 [some (.ref y), none, some (.int (nI L)), some (.int (nI n)), some (.int (nI r0)), some (.int (nI k))] [] τ' Q) (F_m_lays_6 r0 L n g v_tried v_row) (n) (fun k z hk hx => ?_) (n) 0 v_tried (by omega) ?_ σ fr m1 m0 m_tried m_row kp
  · skip
    intro τ' fr m1 m0 m_tried m_row kp
    have hM : isM _ y g A := ⟨m0, m1⟩
    refine Ev.iload rfl rfl ?_
    refine Ev.iload_n rfl rfl ?_
    refine Ev.jge (tgt := 26) rfl (by decide) (fun c9 => absurd (nI_lt hk (by omega)) c9) (fun c9 => ?_)
    refine Ev.aload_n rfl rfl ?_
    refine Ev.getf rfl rfl m0 rfl ?_
    refine Ev.iload rfl rfl ?_
    refine Ev.iconst (v := 0) rfl (by decide) ?_
    refine Ev.iastE (k := k) rfl m_tried rfl ⟨(by omega), by decide⟩ (fun τ1 f1 m_tried => ?_)
    have m1 := frm.cell f1 m1 (by omega)
    have m0 := frm.cell f1 m0 (by omega)
    have m_row := frm.cell f1 m_row (by omega)
    have kp : (∀ q, q ≠ y + 8 → q ≠ y + 9 → τ1.2 q = σ.2 q) := fun q n0 n1 => (f1.2 q (by omega)).trans (kp q n0 n1)
    have fr := fr.step f1 (by omega) (by omega)
    have hM : isM _ y g A := ⟨m0, m1⟩
    refine Ev.iinc (d := 1) rfl rfl rfl (by decide) rfl ?_
    refine Ev.goto (tgt := 6) rfl (by decide) ?_
    have hF : (F_m_lays_6 r0 L n g v_tried v_row) k z = (upd z k (0 : Int32)) := by rfl
    rw [hF] at hx
    exact (hx τ1 fr m1 m0 m_tried m_row kp).fg (gs rfl (gn (gs rfl (gs rfl (gs rfl (gs (congrArg Value.int (show nI (k + 1) = (nI k) + (1 : Int32) from (nq_to (a := k + 1) (nq_add (a := k) (b := 1) rfl (rfl : (1 : Int32) = nI 1)) (by omega)).symm)) gz))))))
  · skip
    intro τ' fr m1 m0 m_tried m_row kp
    have hM : isM _ y g A := ⟨m0, m1⟩
    refine Ev.iload rfl rfl ?_
    refine Ev.iload_n rfl rfl ?_
    refine Ev.jge (tgt := 26) rfl (by decide) (fun c9 => ?_) (fun c9 => absurd c9 (nI_nlt (Nat.le_refl _) (by omega)))
    refine Ev.iload_n rfl rfl ?_
    refine Ev.iconst (v := 1) rfl (by decide) ?_
    refine Ev.isub rfl ?_
    refine Ev.istore rfl rfl rfl ?_
    refine Ev.fg (L := [some (.ref y), none, none, some (.int (nI n)), some (.int (nI r0)), some (.int (nI (L - 0) - 1))]) ?_ (gs rfl (gn (gn (gs rfl (gs rfl (gs rfl gz))))))
    refine lp (fun (k : Nat) (z : Nat × (Nat → Int32) × (Nat → Int32)) => (z.1 < 2 ^ 31) → ∀ τ' : ex_S, frm σ τ' y (y + 17) → τ'.2 (y + 1) = some (.inl (0, 4500, A)) → τ'.2 y = some (.inr (.inr (10, mo y g))) → τ'.2 (y + 8) = some (.inl (0, 6, z.2.1)) → τ'.2 (y + 9) = some (.inl (0, 16, z.2.2)) → (∀ q, q ≠ y + 8 → q ≠ y + 9 → τ'.2 q = σ.2 q) → Ev Γ 0 0 m_M_laysOut 0 0 31 [some (.ref y), none, none, some (.int (nI n)), some (.int (nI z.1)), some (.int (nI (L - k) - 1))] [] τ' Q) (F_m_lays_31 r0 L n g v_tried v_row) (L) (fun k z hk hx => ?_) (L) 0 (r0, (fo (F_m_lays_6 r0 L n g v_tried v_row) (n) 0 v_tried), v_row) (by omega) ?_ (hr0) τ' fr m1 m0 m_tried m_row kp
    · skip
      intro hI
      intro τ' fr m1 m0 m_tried m_row kp
      have hM : isM _ y g A := ⟨m0, m1⟩
      refine Ev.fg (L := [some (.ref y), none, none, some (.int (nI n)), some (.int (nI z.1)), some (.int (nI (L - 1 - k)))]) ?_ (gs rfl (gn (gn (gs rfl (gs rfl (gs (congrArg Value.int (down_eq hk (by omega))) gz))))))
      refine Ev.iload rfl rfl ?_
      refine Ev.zlt (tgt := 93) rfl (by decide) (fun c33 => absurd c33 (nI_pos (by omega))) (fun c33 => ?_)
      refine Ev.aload_n rfl rfl ?_
      refine Ev.getf rfl rfl m0 rfl ?_
      refine Ev.iload rfl rfl ?_
      refine Ev.iload rfl rfl ?_
      refine Ev.iload_n rfl rfl ?_
      refine Ev.iconst (v := 1) rfl (by decide) ?_
      refine Ev.iadd rfl ?_
      refine Ev.irem rfl (np1 (by omega)) ?_
      rw [show (nI z.1) - (nI z.1) / ((nI n) + (1 : Int32)) * ((nI n) + (1 : Int32)) = nI (z.1 % (n + 1)) from nq_rem rfl (nq_add (a := n) (b := 1) rfl (rfl : (1 : Int32) = nI 1)) (by omega) (by omega) (by omega)]
      refine Ev.iastE (k := L - 1 - k) rfl m_row rfl ⟨(by omega), by decide⟩ (fun τ2 f1 m_row => ?_)
      have m1 := frm.cell f1 m1 (by omega)
      have m0 := frm.cell f1 m0 (by omega)
      have m_tried := frm.cell f1 m_tried (by omega)
      have kp : (∀ q, q ≠ y + 8 → q ≠ y + 9 → τ2.2 q = σ.2 q) := fun q n0 n1 => (f1.2 q (by omega)).trans (kp q n0 n1)
      have fr := fr.step f1 (by omega) (by omega)
      have hM : isM _ y g A := ⟨m0, m1⟩
      refine Ev.iload rfl rfl ?_
      refine Ev.iload_n rfl rfl ?_
      refine Ev.iconst (v := 1) rfl (by decide) ?_
      refine Ev.iadd rfl ?_
      refine Ev.idiv rfl (np1 (by omega)) ?_
      rw [show (nI z.1) / ((nI n) + (1 : Int32)) = nI (z.1 / (n + 1)) from nq_div rfl (nq_add (a := n) (b := 1) rfl (rfl : (1 : Int32) = nI 1)) (by omega) (by omega) (by omega)]
      refine Ev.istore rfl rfl rfl ?_
      refine Ev.aload_n rfl rfl ?_
      refine Ev.getf rfl rfl m0 rfl ?_
      refine Ev.iload rfl rfl ?_
      refine Ev.ialdN (k := L - 1 - k) rfl m_row rfl ⟨(by omega), by decide⟩ ?_
      rw [show (upd z.2.2 (L - 1 - k) (nI (z.1 % (n + 1)))) (L - 1 - k) = nI (z.1 % (n + 1)) from pk_us]
      refine Ev.iload_n rfl rfl ?_
      refine Ev.jge (tgt := 87) rfl (by decide) (fun c65 => ?_) (fun c65 => ?_)
      · skip
        refine Ev.iinc (d := (-1)) rfl rfl rfl (by decide) rfl ?_
        refine Ev.goto (tgt := 31) rfl (by decide) ?_
        have hF : (F_m_lays_31 r0 L n g v_tried v_row) k z = (z.1 / (n + 1), z.2.1, (upd z.2.2 (L - 1 - k) (nI (z.1 % (n + 1))))) := by
          unfold F_m_lays_31
          rw [if_neg c65]
        rw [hF] at hx
        exact (hx (by show (z.1 / (n + 1) < 2 ^ 31); exact Nat.lt_of_le_of_lt (Nat.div_le_self _ _) hI) τ2 fr m1 m0 m_tried m_row kp).fg (gs rfl (gn (gn (gs rfl (gs rfl (gs (congrArg Value.int (down_back hk (by omega))) gz))))))
      · skip
        have hlt : z.1 % (n + 1) < n := (nI_lt_iff (by have := Nat.mod_lt z.1 (show 0 < n + 1 by omega); omega) (by omega)).mp c65
        refine Ev.aload_n rfl rfl ?_
        refine Ev.getf rfl rfl m0 rfl ?_
        refine Ev.aload_n rfl rfl ?_
        refine Ev.getf rfl rfl m0 rfl ?_
        refine Ev.iload rfl rfl ?_
        refine Ev.ialdN (k := L - 1 - k) rfl m_row rfl ⟨(by omega), by decide⟩ ?_
        rw [show (upd z.2.2 (L - 1 - k) (nI (z.1 % (n + 1)))) (L - 1 - k) = nI (z.1 % (n + 1)) from pk_us]
        refine Ev.dup2 rfl rfl rfl ?_
        refine Ev.ialdN (k := z.1 % (n + 1)) rfl m_tried rfl ⟨(by omega), by decide⟩ ?_
        refine Ev.iconst (v := 1) rfl (by decide) ?_
        refine Ev.iload rfl rfl ?_
        refine Ev.ishl rfl ?_
        refine Ev.ior rfl ?_
        refine Ev.iastE (k := z.1 % (n + 1)) rfl m_tried rfl ⟨(by omega), by decide⟩ (fun τ3 f1 m_tried => ?_)
        have m1 := frm.cell f1 m1 (by omega)
        have m0 := frm.cell f1 m0 (by omega)
        have m_row := frm.cell f1 m_row (by omega)
        have kp : (∀ q, q ≠ y + 8 → q ≠ y + 9 → τ3.2 q = σ.2 q) := fun q n0 n1 => (f1.2 q (by omega)).trans (kp q n0 n1)
        have fr := fr.step f1 (by omega) (by omega)
        have hM : isM _ y g A := ⟨m0, m1⟩
        refine Ev.iinc (d := (-1)) rfl rfl rfl (by decide) rfl ?_
        refine Ev.goto (tgt := 31) rfl (by decide) ?_
        have hF : (F_m_lays_31 r0 L n g v_tried v_row) k z = (z.1 / (n + 1), (upd z.2.1 (z.1 % (n + 1)) ((z.2.1 (z.1 % (n + 1))) ||| ((1 : Int32) <<< ((nI (L - 1 - k)) &&& 31)))), (upd z.2.2 (L - 1 - k) (nI (z.1 % (n + 1))))) := by
          unfold F_m_lays_31
          rw [if_pos c65]
        rw [hF] at hx
        exact (hx (by show (z.1 / (n + 1) < 2 ^ 31); exact Nat.lt_of_le_of_lt (Nat.div_le_self _ _) hI) τ3 fr m1 m0 m_tried m_row kp).fg (gs rfl (gn (gn (gs rfl (gs rfl (gs (congrArg Value.int (down_back hk (by omega))) gz))))))
    · skip
      intro hI
      intro τ' fr m1 m0 m_tried m_row kp
      have hM : isM _ y g A := ⟨m0, m1⟩
      refine Ev.iload rfl rfl ?_
      refine Ev.zlt (tgt := 93) rfl (by decide) (fun c33 => ?_) (fun c33 => absurd (down_lt _) c33)
      refine Ev.ret rfl rfl (Nat.le_refl _) (Nat.le_refl _) ?_
      have hK : (K_m_lays r0 L n g v_tried v_row) = ((fo (F_m_lays_31 r0 L n g v_tried v_row) (L) 0 (r0, (fo (F_m_lays_6 r0 L n g v_tried v_row) (n) 0 v_tried), v_row)).2.1, (fo (F_m_lays_31 r0 L n g v_tried v_row) (L) 0 (r0, (fo (F_m_lays_6 r0 L n g v_tried v_row) (n) 0 v_tried), v_row)).2.2) := by rfl
      rw [← hQ]
      dsimp only
      rw [hK]
      exact ⟨rfl, fr, m_tried, m_row, kp⟩
theorem pt_cl {n i : Nat} {v : Int32} {f : Nat → Int32} (hn : n ≤ 16) (h : v = -1 ∨ ∃ q, q < n ∧ q ≠ i ∧ v = nI q ∧ f q = nI i) (c : ¬ v < 0) : v = nI v.toNatClampNeg ∧ v.toNatClampNeg < n := by
  rcases h with rfl | ⟨q, h1, -, rfl, -⟩
  · exact absurd (by decide) c
  · rw [nI_clamp (by omega)]
    exact ⟨rfl, h1⟩
def F_m_right_3 (S : Sch) (P : Pln) (v_tried v_row : Nat → Int32) : Nat → Unit → (Unit) ⊕ Int32 := fun k z => if (0 : Int32) < (K_many (v_tried k)) then (if (K_in (K_many (v_tried k)) (S.2.2 9 2) (S.2.2 9 3)) = (0 : Int32) then (.inr (0 : Int32)) else (.inl ())) else (.inl ())
def F_m_right_64 (S : Sch) (P : Pln) (v_tried v_row : Nat → Int32) : Nat → Int32 → Int32 := fun k z => if z = (0 : Int32) then (0 : Int32) else (if (nI ((v_row k).toNatClampNeg)) = (nI P.1) then (if (S.2.2 3 k) < (0 : Int32) then (1 : Int32) else (if (v_row ((S.2.2 3 k).toNatClampNeg)) = (v_row k) then (1 : Int32) else (0 : Int32))) else (if (K_can S (P.2 ((v_row k).toNatClampNeg)) (nI k)) = (0 : Int32) then (0 : Int32) else (if (S.2.2 3 k) < (0 : Int32) then (1 : Int32) else (if (v_row ((S.2.2 3 k).toNatClampNeg)) = (v_row k) then (1 : Int32) else (0 : Int32)))))
theorem right01 {S : Sch} {P : Pln} {v_tried v_row : Nat → Int32} : fo (F_m_right_64 S P v_tried v_row) S.1 0 1 = 0 ∨ fo (F_m_right_64 S P v_tried v_row) S.1 0 1 = 1 := fo_inv (fun _ z => z = 0 ∨ z = 1) S.1 0 1 (Or.inr rfl) (fun j z _ _ _ => by
  unfold F_m_right_64
  repeat' split
  all_goals simp)
def K_m_right (S : Sch) (P : Pln) (v_tried v_row : Nat → Int32) : Int32 := Sum.elim (fun (zx : Unit) => (fo (F_m_right_64 S P v_tried v_row) (S.1) 0 (1 : Int32))) (fun (rx : Int32) => rx) (fe (F_m_right_3 S P v_tried v_row) (P.1) 0 ())
theorem m_right_ok (hM : isM σ y g A) {s : Nat} (hS : mS A s S) (hs : s + 120 ≤ 4500) (hwS : wS S) (hP : mP A (970 + 40 * p) P) (hp : p < 3) (hwP : wP P) (hgo : goP S P) {v_tried v_row : Nat → Int32} (m_tried : σ.2 (y + 8) = some (.inl (0, 6, v_tried))) (m_row : σ.2 (y + 9) = some (.inl (0, 16, v_row))) (hrow : ∀ l, l < S.1 → v_row l = nI (v_row l).toNatClampNeg ∧ (v_row l).toNatClampNeg ≤ P.1) : RetV Γ m_M_isRight [(.ref y), (.int (nI s)), (.int (nI p)), (.int (nI P.1))] σ (.int (K_m_right S P v_tried v_row)) := by
  obtain ⟨m0, m1⟩ := id hM
  have hn16 := hwS.1
  have hn5 := hwS.2.1
  have h6 := hwP.1
  unfold RetV
  generalize hQ : (fun (r : Option Value) (σ' : ex_S) => r = some ((.int (K_m_right S P v_tried v_row)) : Value) ∧ σ' = σ) = Q
  refine Ret.start pm_228 rfl ?_
  refine Ev.iconst (v := 0) rfl (by decide) ?_
  refine Ev.istore rfl rfl rfl ?_
  refine Ev.fg (L := [some (.ref y), some (.int (nI s)), some (.int (nI p)), some (.int (nI P.1)), some (.int (nI 0)), none]) ?_ (gs rfl (gs rfl (gs rfl (gs rfl (gs (congrArg Value.int (rfl : (0 : Int32) = nI 0).symm) (gn gz))))))
  refine lpe (fun (k : Nat) (z : Unit) => Ev Γ 0 0 m_M_isRight 0 0 3 [some (.ref y), some (.int (nI s)), some (.int (nI p)), some (.int (nI P.1)), some (.int (nI k)), none] [] σ Q) (fun (r : Int32) => Q (some (.int r)) σ) (F_m_right_3 S P v_tried v_row) (P.1) (fun k z hk hx he => ?_) (P.1) 0 () (by omega) (fun zx hzx => ?_) (fun rx hrx => ?_)
  · skip
    refine Ev.iload rfl rfl ?_
    refine Ev.iload_n rfl rfl ?_
    refine Ev.jge (tgt := 58) rfl (by decide) (fun c6 => absurd (nI_lt hk (by omega)) c6) (fun c6 => ?_)
    refine Ev.aload_n rfl rfl ?_
    refine Ev.getf rfl rfl m0 rfl ?_
    refine Ev.iload rfl rfl ?_
    refine Ev.ialdN (k := k) rfl m_tried rfl ⟨(by omega), by decide⟩ ?_
    refine Ev.cS1 rfl rfl rfl (by decide) ⟨(Nat.le_refl _), (Nat.le_refl _)⟩ (m_many_ok _) ?_
    refine Ev.istore rfl rfl rfl ?_
    refine Ev.iload rfl rfl ?_
    refine Ev.zle (tgt := 52) rfl (by decide) (fun c23 => ?_) (fun c23 => ?_)
    · skip
      refine Ev.iinc (d := 1) rfl rfl rfl (by decide) rfl ?_
      refine Ev.goto (tgt := 3) rfl (by decide) ?_
      have hF : (F_m_right_3 S P v_tried v_row) k z = .inl () := by
        unfold F_m_right_3
        rw [if_neg c23]
      exact (hx _ hF).fg (gs rfl (gs rfl (gs rfl (gs rfl (gs (congrArg Value.int (show nI (k + 1) = (nI k) + (1 : Int32) from (nq_to (a := k + 1) (nq_add (a := k) (b := 1) rfl (rfl : (1 : Int32) = nI 1)) (by omega)).symm)) (gn gz))))))
    · skip
      refine Ev.iload rfl rfl ?_
      refine Ev.aload_n rfl rfl ?_
      refine Ev.getf rfl rfl m0 rfl ?_
      refine Ev.iload_n rfl rfl ?_
      refine Ev.iconst (v := 4) rfl (by decide) ?_
      refine Ev.iadd rfl ?_
      refine Ev.ialdN (k := s + 4) rfl m1 (nq_to (a := s + 4) (nq_add (a := s) (b := 4) rfl (rfl : (4 : Int32) = nI 4)) (by omega)) ⟨(by omega), by decide⟩ ?_
      rw [show A (s + 4) = _ from hS.2.2.1 2 (by decide)]
      refine Ev.aload_n rfl rfl ?_
      refine Ev.getf rfl rfl m0 rfl ?_
      refine Ev.iload_n rfl rfl ?_
      refine Ev.iconst (v := 5) rfl (by decide) ?_
      refine Ev.iadd rfl ?_
      refine Ev.ialdN (k := s + 5) rfl m1 (nq_to (a := s + 5) (nq_add (a := s) (b := 5) rfl (rfl : (5 : Int32) = nI 5)) (by omega)) ⟨(by omega), by decide⟩ ?_
      rw [show A (s + 5) = _ from hS.2.2.1 3 (by decide)]
      refine Ev.cS3 rfl rfl rfl (by decide) ⟨(Nat.le_refl _), (Nat.le_refl _)⟩ (m_in_ok _ _ _) ?_
      refine Ev.zne (tgt := 52) rfl (by decide) (fun c47 => ?_) (fun c47 => ?_)
      · skip
        refine Ev.iinc (d := 1) rfl rfl rfl (by decide) rfl ?_
        refine Ev.goto (tgt := 3) rfl (by decide) ?_
        have hF : (F_m_right_3 S P v_tried v_row) k z = .inl () := by
          unfold F_m_right_3
          rw [if_pos c23]
          rw [if_neg c47]
        exact (hx _ hF).fg (gs rfl (gs rfl (gs rfl (gs rfl (gs (congrArg Value.int (show nI (k + 1) = (nI k) + (1 : Int32) from (nq_to (a := k + 1) (nq_add (a := k) (b := 1) rfl (rfl : (1 : Int32) = nI 1)) (by omega)).symm)) (gn gz))))))
      · skip
        refine Ev.iconst (v := 0) rfl (by decide) ?_
        refine Ev.iret (ty := .boolean) rfl rfl rfl (Nat.le_refl _) (Nat.le_refl _) ?_
        refine he _ ?_
        unfold F_m_right_3
        rw [if_pos c23]
        rw [if_pos c47]
  · skip
    refine Ev.iload rfl rfl ?_
    refine Ev.iload_n rfl rfl ?_
    refine Ev.jge (tgt := 58) rfl (by decide) (fun c6 => ?_) (fun c6 => absurd c6 (nI_nlt (Nat.le_refl _) (by omega)))
    refine Ev.iconst (v := 1) rfl (by decide) ?_
    refine Ev.istore rfl rfl rfl ?_
    refine Ev.iconst (v := 0) rfl (by decide) ?_
    refine Ev.istore rfl rfl rfl ?_
    refine Ev.fg (L := [some (.ref y), some (.int (nI s)), some (.int (nI p)), some (.int (nI P.1)), some (.int (1 : Int32)), some (.int (nI 0))]) ?_ (gs rfl (gs rfl (gs rfl (gs rfl (gs rfl (gs (congrArg Value.int (rfl : (0 : Int32) = nI 0).symm) gz))))))
    refine lp (fun (k : Nat) (z : Int32) => Ev Γ 0 0 m_M_isRight 0 0 64 [some (.ref y), some (.int (nI s)), some (.int (nI p)), some (.int (nI P.1)), some (.int z), some (.int (nI k))] [] σ Q) (F_m_right_64 S P v_tried v_row) (S.1) (fun k z hk hx => ?_) (S.1) 0 (1 : Int32) (by omega) ?_
    · skip
      refine Ev.iload rfl rfl ?_
      refine Ev.aload_n rfl rfl ?_
      refine Ev.getf rfl rfl m0 rfl ?_
      refine Ev.iload_n rfl rfl ?_
      refine Ev.ialdN (k := s) rfl m1 (nq_to (a := s) rfl (by omega)) ⟨(by omega), by decide⟩ ?_
      rw [hS.1]
      refine Ev.jge (tgt := 180) rfl (by decide) (fun c72 => absurd (nI_lt hk (by omega)) c72) (fun c72 => ?_)
      refine Ev.iload rfl rfl ?_
      refine Ev.zeq (tgt := 117) rfl (by decide) (fun c77 => ?_) (fun c77 => ?_)
      · skip
        refine Ev.iconst (v := 0) rfl (by decide) ?_
        refine Ev.istore rfl rfl rfl ?_
        refine Ev.iload rfl rfl ?_
        refine Ev.zeq (tgt := 171) rfl (by decide) (fun c122 => ?_) (fun c122 => absurd (by decide) c122)
        refine Ev.iconst (v := 0) rfl (by decide) ?_
        refine Ev.istore rfl rfl rfl ?_
        refine Ev.iinc (d := 1) rfl rfl rfl (by decide) rfl ?_
        refine Ev.goto (tgt := 64) rfl (by decide) ?_
        have hF : (F_m_right_64 S P v_tried v_row) k z = (0 : Int32) := by
          unfold F_m_right_64
          rw [if_pos c77]
        rw [hF] at hx
        exact hx.fg (gs rfl (gs rfl (gs rfl (gs rfl (gs rfl (gs (congrArg Value.int (show nI (k + 1) = (nI k) + (1 : Int32) from (nq_to (a := k + 1) (nq_add (a := k) (b := 1) rfl (rfl : (1 : Int32) = nI 1)) (by omega)).symm)) gz))))))
      · skip
        refine Ev.aload_n rfl rfl ?_
        refine Ev.getf rfl rfl m0 rfl ?_
        refine Ev.iload rfl rfl ?_
        refine Ev.ialdN (k := k) rfl m_row rfl ⟨(by omega), by decide⟩ ?_
        rw [(hrow k (by omega)).1]
        refine Ev.iload_n rfl rfl ?_
        refine Ev.jeq (tgt := 113) rfl (by decide) (fun c88 => ?_) (fun c88 => ?_)
        · skip
          refine Ev.iconst (v := 1) rfl (by decide) ?_
          refine Ev.goto (tgt := 118) rfl (by decide) ?_
          refine Ev.istore rfl rfl rfl ?_
          refine Ev.iload rfl rfl ?_
          refine Ev.zeq (tgt := 171) rfl (by decide) (fun c122 => absurd c122 (by decide)) (fun c122 => ?_)
          refine Ev.aload_n rfl rfl ?_
          refine Ev.getf rfl rfl m0 rfl ?_
          refine Ev.iload_n rfl rfl ?_
          refine Ev.bipush (v := 61) rfl (by decide) ?_
          refine Ev.iadd rfl ?_
          refine Ev.iload rfl rfl ?_
          refine Ev.iadd rfl ?_
          refine Ev.ialdN (k := s + 61 + k) rfl m1 (nq_to (a := s + 61 + k) (nq_add (a := s + 61) (b := k) (nq_add (a := s) (b := 61) rfl (rfl : (61 : Int32) = nI 61)) rfl) (by omega)) ⟨(by omega), by decide⟩ ?_
          rw [(hS.2.2.2.1 k (by omega)).2.2.2.1]
          refine Ev.zlt (tgt := 167) rfl (by decide) (fun c137 => ?_) (fun c137 => ?_)
          · skip
            refine Ev.iconst (v := 1) rfl (by decide) ?_
            refine Ev.goto (tgt := 172) rfl (by decide) ?_
            refine Ev.istore rfl rfl rfl ?_
            refine Ev.iinc (d := 1) rfl rfl rfl (by decide) rfl ?_
            refine Ev.goto (tgt := 64) rfl (by decide) ?_
            have hF : (F_m_right_64 S P v_tried v_row) k z = (1 : Int32) := by
              unfold F_m_right_64
              rw [if_neg c77]
              rw [if_pos c88]
              rw [if_pos c137]
            rw [hF] at hx
            exact hx.fg (gs rfl (gs rfl (gs rfl (gs rfl (gs rfl (gs (congrArg Value.int (show nI (k + 1) = (nI k) + (1 : Int32) from (nq_to (a := k + 1) (nq_add (a := k) (b := 1) rfl (rfl : (1 : Int32) = nI 1)) (by omega)).symm)) gz))))))
          · skip
            refine Ev.aload_n rfl rfl ?_
            refine Ev.getf rfl rfl m0 rfl ?_
            refine Ev.aload_n rfl rfl ?_
            refine Ev.getf rfl rfl m0 rfl ?_
            refine Ev.iload_n rfl rfl ?_
            refine Ev.bipush (v := 61) rfl (by decide) ?_
            refine Ev.iadd rfl ?_
            refine Ev.iload rfl rfl ?_
            refine Ev.iadd rfl ?_
            refine Ev.ialdN (k := s + 61 + k) rfl m1 (nq_to (a := s + 61 + k) (nq_add (a := s + 61) (b := k) (nq_add (a := s) (b := 61) rfl (rfl : (61 : Int32) = nI 61)) rfl) (by omega)) ⟨(by omega), by decide⟩ ?_
            rw [(hS.2.2.2.1 k (by omega)).2.2.2.1]
            obtain ⟨hpq, hpl⟩ := pt_cl hn16 (hwS.2.2.1 k (by omega)).2.2.2.1 c137
            refine Ev.ialdN (k := (S.2.2 3 k).toNatClampNeg) rfl m_row hpq ⟨(by omega), by decide⟩ ?_
            refine Ev.aload_n rfl rfl ?_
            refine Ev.getf rfl rfl m0 rfl ?_
            refine Ev.iload rfl rfl ?_
            refine Ev.ialdN (k := k) rfl m_row rfl ⟨(by omega), by decide⟩ ?_
            refine Ev.jne (tgt := 171) rfl (by decide) (fun c164 => ?_) (fun c164 => ?_)
            · skip
              refine Ev.iconst (v := 0) rfl (by decide) ?_
              refine Ev.istore rfl rfl rfl ?_
              refine Ev.iinc (d := 1) rfl rfl rfl (by decide) rfl ?_
              refine Ev.goto (tgt := 64) rfl (by decide) ?_
              have hF : (F_m_right_64 S P v_tried v_row) k z = (0 : Int32) := by
                unfold F_m_right_64
                rw [if_neg c77]
                rw [if_pos c88]
                rw [if_neg c137]
                rw [if_neg c164]
              rw [hF] at hx
              exact hx.fg (gs rfl (gs rfl (gs rfl (gs rfl (gs rfl (gs (congrArg Value.int (show nI (k + 1) = (nI k) + (1 : Int32) from (nq_to (a := k + 1) (nq_add (a := k) (b := 1) rfl (rfl : (1 : Int32) = nI 1)) (by omega)).symm)) gz))))))
            · skip
              refine Ev.iconst (v := 1) rfl (by decide) ?_
              refine Ev.goto (tgt := 172) rfl (by decide) ?_
              refine Ev.istore rfl rfl rfl ?_
              refine Ev.iinc (d := 1) rfl rfl rfl (by decide) rfl ?_
              refine Ev.goto (tgt := 64) rfl (by decide) ?_
              have hF : (F_m_right_64 S P v_tried v_row) k z = (1 : Int32) := by
                unfold F_m_right_64
                rw [if_neg c77]
                rw [if_pos c88]
                rw [if_neg c137]
                rw [if_pos c164]
              rw [hF] at hx
              exact hx.fg (gs rfl (gs rfl (gs rfl (gs rfl (gs rfl (gs (congrArg Value.int (show nI (k + 1) = (nI k) + (1 : Int32) from (nq_to (a := k + 1) (nq_add (a := k) (b := 1) rfl (rfl : (1 : Int32) = nI 1)) (by omega)).symm)) gz))))))
        · skip
          have hlt : (v_row k).toNatClampNeg < P.1 := by
            have e1 := (hrow k (by omega)).2
            have e2 : (v_row k).toNatClampNeg ≠ P.1 := fun e => c88 (by rw [e])
            omega
          refine Ev.aload_n rfl rfl ?_
          refine Ev.iload_n rfl rfl ?_
          refine Ev.aload_n rfl rfl ?_
          refine Ev.iload_n rfl rfl ?_
          refine Ev.aload_n rfl rfl ?_
          refine Ev.getf rfl rfl m0 rfl ?_
          refine Ev.iload rfl rfl ?_
          refine Ev.ialdN (k := k) rfl m_row rfl ⟨(by omega), by decide⟩ ?_
          rw [(hrow k (by omega)).1]
          refine Ev.cV2 rfl rfl m0 rfl rfl (by decide) ⟨(Nat.le_refl _), (Nat.le_refl _)⟩ (m_classAt_ok hM ((v_row k).toNatClampNeg)) ?_
          refine Ev.iload rfl rfl ?_
          refine Ev.cV3 rfl rfl m0 rfl rfl (by decide) ⟨(Nat.le_refl _), (Nat.le_refl _)⟩ (m_can_ok hM hS hs hwS (hP.2 ((v_row k).toNatClampNeg) (by omega)) (by omega) k (by omega)) ?_
          refine Ev.zeq (tgt := 117) rfl (by decide) (fun c110 => ?_) (fun c110 => ?_)
          · skip
            refine Ev.iconst (v := 0) rfl (by decide) ?_
            refine Ev.istore rfl rfl rfl ?_
            refine Ev.iload rfl rfl ?_
            refine Ev.zeq (tgt := 171) rfl (by decide) (fun c122 => ?_) (fun c122 => absurd (by decide) c122)
            refine Ev.iconst (v := 0) rfl (by decide) ?_
            refine Ev.istore rfl rfl rfl ?_
            refine Ev.iinc (d := 1) rfl rfl rfl (by decide) rfl ?_
            refine Ev.goto (tgt := 64) rfl (by decide) ?_
            have hF : (F_m_right_64 S P v_tried v_row) k z = (0 : Int32) := by
              unfold F_m_right_64
              rw [if_neg c77]
              rw [if_neg c88]
              rw [if_pos c110]
            rw [hF] at hx
            exact hx.fg (gs rfl (gs rfl (gs rfl (gs rfl (gs rfl (gs (congrArg Value.int (show nI (k + 1) = (nI k) + (1 : Int32) from (nq_to (a := k + 1) (nq_add (a := k) (b := 1) rfl (rfl : (1 : Int32) = nI 1)) (by omega)).symm)) gz))))))
          · skip
            refine Ev.iconst (v := 1) rfl (by decide) ?_
            refine Ev.goto (tgt := 118) rfl (by decide) ?_
            refine Ev.istore rfl rfl rfl ?_
            refine Ev.iload rfl rfl ?_
            refine Ev.zeq (tgt := 171) rfl (by decide) (fun c122 => absurd c122 (by decide)) (fun c122 => ?_)
            refine Ev.aload_n rfl rfl ?_
            refine Ev.getf rfl rfl m0 rfl ?_
            refine Ev.iload_n rfl rfl ?_
            refine Ev.bipush (v := 61) rfl (by decide) ?_
            refine Ev.iadd rfl ?_
            refine Ev.iload rfl rfl ?_
            refine Ev.iadd rfl ?_
            refine Ev.ialdN (k := s + 61 + k) rfl m1 (nq_to (a := s + 61 + k) (nq_add (a := s + 61) (b := k) (nq_add (a := s) (b := 61) rfl (rfl : (61 : Int32) = nI 61)) rfl) (by omega)) ⟨(by omega), by decide⟩ ?_
            rw [(hS.2.2.2.1 k (by omega)).2.2.2.1]
            refine Ev.zlt (tgt := 167) rfl (by decide) (fun c137 => ?_) (fun c137 => ?_)
            · skip
              refine Ev.iconst (v := 1) rfl (by decide) ?_
              refine Ev.goto (tgt := 172) rfl (by decide) ?_
              refine Ev.istore rfl rfl rfl ?_
              refine Ev.iinc (d := 1) rfl rfl rfl (by decide) rfl ?_
              refine Ev.goto (tgt := 64) rfl (by decide) ?_
              have hF : (F_m_right_64 S P v_tried v_row) k z = (1 : Int32) := by
                unfold F_m_right_64
                rw [if_neg c77]
                rw [if_neg c88]
                rw [if_neg c110]
                rw [if_pos c137]
              rw [hF] at hx
              exact hx.fg (gs rfl (gs rfl (gs rfl (gs rfl (gs rfl (gs (congrArg Value.int (show nI (k + 1) = (nI k) + (1 : Int32) from (nq_to (a := k + 1) (nq_add (a := k) (b := 1) rfl (rfl : (1 : Int32) = nI 1)) (by omega)).symm)) gz))))))
            · skip
              refine Ev.aload_n rfl rfl ?_
              refine Ev.getf rfl rfl m0 rfl ?_
              refine Ev.aload_n rfl rfl ?_
              refine Ev.getf rfl rfl m0 rfl ?_
              refine Ev.iload_n rfl rfl ?_
              refine Ev.bipush (v := 61) rfl (by decide) ?_
              refine Ev.iadd rfl ?_
              refine Ev.iload rfl rfl ?_
              refine Ev.iadd rfl ?_
              refine Ev.ialdN (k := s + 61 + k) rfl m1 (nq_to (a := s + 61 + k) (nq_add (a := s + 61) (b := k) (nq_add (a := s) (b := 61) rfl (rfl : (61 : Int32) = nI 61)) rfl) (by omega)) ⟨(by omega), by decide⟩ ?_
              rw [(hS.2.2.2.1 k (by omega)).2.2.2.1]
              obtain ⟨hpq, hpl⟩ := pt_cl hn16 (hwS.2.2.1 k (by omega)).2.2.2.1 c137
              refine Ev.ialdN (k := (S.2.2 3 k).toNatClampNeg) rfl m_row hpq ⟨(by omega), by decide⟩ ?_
              refine Ev.aload_n rfl rfl ?_
              refine Ev.getf rfl rfl m0 rfl ?_
              refine Ev.iload rfl rfl ?_
              refine Ev.ialdN (k := k) rfl m_row rfl ⟨(by omega), by decide⟩ ?_
              refine Ev.jne (tgt := 171) rfl (by decide) (fun c164 => ?_) (fun c164 => ?_)
              · skip
                refine Ev.iconst (v := 0) rfl (by decide) ?_
                refine Ev.istore rfl rfl rfl ?_
                refine Ev.iinc (d := 1) rfl rfl rfl (by decide) rfl ?_
                refine Ev.goto (tgt := 64) rfl (by decide) ?_
                have hF : (F_m_right_64 S P v_tried v_row) k z = (0 : Int32) := by
                  unfold F_m_right_64
                  rw [if_neg c77]
                  rw [if_neg c88]
                  rw [if_neg c110]
                  rw [if_neg c137]
                  rw [if_neg c164]
                rw [hF] at hx
                exact hx.fg (gs rfl (gs rfl (gs rfl (gs rfl (gs rfl (gs (congrArg Value.int (show nI (k + 1) = (nI k) + (1 : Int32) from (nq_to (a := k + 1) (nq_add (a := k) (b := 1) rfl (rfl : (1 : Int32) = nI 1)) (by omega)).symm)) gz))))))
              · skip
                refine Ev.iconst (v := 1) rfl (by decide) ?_
                refine Ev.goto (tgt := 172) rfl (by decide) ?_
                refine Ev.istore rfl rfl rfl ?_
                refine Ev.iinc (d := 1) rfl rfl rfl (by decide) rfl ?_
                refine Ev.goto (tgt := 64) rfl (by decide) ?_
                have hF : (F_m_right_64 S P v_tried v_row) k z = (1 : Int32) := by
                  unfold F_m_right_64
                  rw [if_neg c77]
                  rw [if_neg c88]
                  rw [if_neg c110]
                  rw [if_neg c137]
                  rw [if_pos c164]
                rw [hF] at hx
                exact hx.fg (gs rfl (gs rfl (gs rfl (gs rfl (gs rfl (gs (congrArg Value.int (show nI (k + 1) = (nI k) + (1 : Int32) from (nq_to (a := k + 1) (nq_add (a := k) (b := 1) rfl (rfl : (1 : Int32) = nI 1)) (by omega)).symm)) gz))))))
    · skip
      refine Ev.iload rfl rfl ?_
      refine Ev.aload_n rfl rfl ?_
      refine Ev.getf rfl rfl m0 rfl ?_
      refine Ev.iload_n rfl rfl ?_
      refine Ev.ialdN (k := s) rfl m1 (nq_to (a := s) rfl (by omega)) ⟨(by omega), by decide⟩ ?_
      rw [hS.1]
      refine Ev.jge (tgt := 180) rfl (by decide) (fun c72 => ?_) (fun c72 => absurd c72 (nI_nlt (Nat.le_refl _) (by omega)))
      refine Ev.iload rfl rfl ?_
      refine Ev.iret (ty := .boolean) rfl rfl (nle_bool _ right01) (Nat.le_refl _) (Nat.le_refl _) ?_
      rw [← hQ]
      refine ⟨congrArg (fun v => some (Value.int v)) (Eq.symm ?_), rfl⟩
      unfold K_m_right
      rw [hzx, Sum.elim_inl]
  · skip
    rw [← hQ]
    refine ⟨congrArg (fun v => some (Value.int v)) (Eq.symm ?_), rfl⟩
    unfold K_m_right
    rw [hrx, Sum.elim_inr]
def F_m_ltried_6 (S : Sch) (P : Pln) (v_tried : Nat → Int32) : Nat → Int32 → Int32 := fun k z => z + (K_tog S (P.2 k) (v_tried k))
def K_m_ltried (S : Sch) (P : Pln) (v_tried : Nat → Int32) : Int32 := (fo (F_m_ltried_6 S P v_tried) (P.1) 0 (0 : Int32))
theorem m_ltried_ok (hM : isM σ y g A) {s : Nat} (hS : mS A s S) (hs : s + 120 ≤ 4500) (hwS : wS S) (hP : mP A (970 + 40 * p) P) (hp : p < 3) (hwP : wP P) (hgo : goP S P) {v_tried v_row : Nat → Int32} (m_tried : σ.2 (y + 8) = some (.inl (0, 6, v_tried))) (m_row : σ.2 (y + 9) = some (.inl (0, 16, v_row))) (htr : ∀ k, k < P.1 → inS S (v_tried k)) : RetV Γ m_M_learntTried [(.ref y), (.int (nI s)), (.int (nI p)), (.int (nI P.1))] σ (.int (K_m_ltried S P v_tried)) := by
  obtain ⟨m0, m1⟩ := id hM
  have hn16 := hwS.1
  have hn5 := hwS.2.1
  have h6 := hwP.1
  unfold RetV
  generalize hQ : (fun (r : Option Value) (σ' : ex_S) => r = some ((.int (K_m_ltried S P v_tried)) : Value) ∧ σ' = σ) = Q
  refine Ret.start pm_230 rfl ?_
  refine Ev.iconst (v := 0) rfl (by decide) ?_
  refine Ev.istore rfl rfl rfl ?_
  refine Ev.iconst (v := 0) rfl (by decide) ?_
  refine Ev.istore rfl rfl rfl ?_
  refine Ev.fg (L := [some (.ref y), some (.int (nI s)), some (.int (nI p)), some (.int (nI P.1)), some (.int (0 : Int32)), some (.int (nI 0))]) ?_ (gs rfl (gs rfl (gs rfl (gs rfl (gs rfl (gs (congrArg Value.int (rfl : (0 : Int32) = nI 0).symm) gz))))))
  refine lp (fun (k : Nat) (z : Int32) => Ev Γ 0 0 m_M_learntTried 0 0 6 [some (.ref y), some (.int (nI s)), some (.int (nI p)), some (.int (nI P.1)), some (.int z), some (.int (nI k))] [] σ Q) (F_m_ltried_6 S P v_tried) (P.1) (fun k z hk hx => ?_) (P.1) 0 (0 : Int32) (by omega) ?_
  · skip
    refine Ev.iload rfl rfl ?_
    refine Ev.iload_n rfl rfl ?_
    refine Ev.jge (tgt := 42) rfl (by decide) (fun c9 => absurd (nI_lt hk (by omega)) c9) (fun c9 => ?_)
    refine Ev.iload rfl rfl ?_
    refine Ev.aload_n rfl rfl ?_
    refine Ev.iload_n rfl rfl ?_
    refine Ev.aload_n rfl rfl ?_
    refine Ev.iload_n rfl rfl ?_
    refine Ev.iload rfl rfl ?_
    refine Ev.cV2 rfl rfl m0 rfl rfl (by decide) ⟨(Nat.le_refl _), (Nat.le_refl _)⟩ (m_classAt_ok hM k) ?_
    refine Ev.aload_n rfl rfl ?_
    refine Ev.getf rfl rfl m0 rfl ?_
    refine Ev.iload rfl rfl ?_
    refine Ev.ialdN (k := k) rfl m_tried rfl ⟨(by omega), by decide⟩ ?_
    refine Ev.cV3 rfl rfl m0 rfl rfl (by decide) ⟨(Nat.le_refl _), (Nat.le_refl _)⟩ (m_tog_W hM hS hs hwS (hP.2 k (by omega)) (by omega) (hwP.2 k (by omega)) (hgo k (by omega)).1 (htr k (by omega))) ?_
    refine Ev.iadd rfl ?_
    refine Ev.istore rfl rfl rfl ?_
    refine Ev.iinc (d := 1) rfl rfl rfl (by decide) rfl ?_
    refine Ev.goto (tgt := 6) rfl (by decide) ?_
    have hF : (F_m_ltried_6 S P v_tried) k z = z + (K_tog S (P.2 k) (v_tried k)) := by rfl
    rw [hF] at hx
    exact hx.fg (gs rfl (gs rfl (gs rfl (gs rfl (gs rfl (gs (congrArg Value.int (show nI (k + 1) = (nI k) + (1 : Int32) from (nq_to (a := k + 1) (nq_add (a := k) (b := 1) rfl (rfl : (1 : Int32) = nI 1)) (by omega)).symm)) gz))))))
  · skip
    refine Ev.iload rfl rfl ?_
    refine Ev.iload_n rfl rfl ?_
    refine Ev.jge (tgt := 42) rfl (by decide) (fun c9 => ?_) (fun c9 => absurd c9 (nI_nlt (Nat.le_refl _) (by omega)))
    refine Ev.iload rfl rfl ?_
    refine Ev.iret (ty := .int) rfl rfl rfl (Nat.le_refl _) (Nat.le_refl _) ?_
    rw [← hQ]
    refine ⟨congrArg (fun v => some (Value.int v)) (Eq.symm ?_), rfl⟩
    rfl
end
end
