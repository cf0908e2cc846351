/-! Printed by sym.py: sharing out (class). -/
noncomputable section
section
variable {Γ : ex_G} {σ : ex_S} {x q a p y : Nat} {S : Sch} {T : Tol} {P : Pln} {g A : Nat → Int32}
theorem elim_1 {A B C : Type} (a : Nat) (f : A → Nat × C) (g : B → Nat × C) (hf : ∀ z, (f z).1 = a) (hg : ∀ z, (g z).1 = a) (s : A ⊕ B) : (Sum.elim f g s).1 = a := by
  cases s
  · exact hf _
  · exact hg _
theorem seatAll_le (S : Sch) (P : Pln) (wo be we : Nat → Int32) : (K_seatAll S P wo be we).1 ≤ 8 := by
  unfold K_seatAll
  refine Nat.le_trans (Nat.le_of_eq (elim_1 (K_begin (K_all S) wo).1 _ _ ?_ ?_ _)) (begin_le _ _)
  · intro z; rfl
  · intro z; rfl
def K_seats0 (T : Tol) (i j : Nat) (wo be we : Nat → Int32) : Int32 × Nat × (Nat → Int32) × (Nat → Int32) × (Nat → Int32) := (K_most ((K_seatAll (tS T i) (tP T j) wo be we).1) ((K_seatAll (tS T i) (tP T j) wo be we).2.2.1), (K_seatAll (tS T i) (tP T j) wo be we).1, (K_seatAll (tS T i) (tP T j) wo be we).2.1, (K_seatAll (tS T i) (tP T j) wo be we).2.2.1, (K_seatAll (tS T i) (tP T j) wo be we).2.2.2)
theorem seats0_some (hX0 : isX σ x) (hT0 : isT σ (x + 1) T) (hw : wT T) {u v : Int32} {i j : Nat} (hg : gd T u v i j) {n0 : Nat} {wo be we : Nat → Int32} (hsh : σ.2 (x + 104) = some (.inr (.inr (7, [.ref (x + 104 + 1), .int (nI n0), .ref (x + 104 + 2), .ref (x + 104 + 3)])))) (h_who : σ.2 (x + 104 + 1) = some (.inl (0, 8, wo))) (h_best : σ.2 (x + 104 + 2) = some (.inl (0, 256, be))) (h_worth : σ.2 (x + 104 + 3) = some (.inl (0, 256, we))) (hs8 : (tS T i).1 ≤ 8) (hp3 : (tP T j).1 ≤ 3) : RetX Γ m_SD_seats [(.ref x), .int u, .int v, (.int (0 : Int32))] σ (x + 104) (x + 108) (some (.int ((K_seats0 T i j wo be we).1))) (fun τ => τ.2 (x + 104) = some (.inr (.inr (7, [(.ref (x + 104 + 1)), (.int (nI ((K_seats0 T i j wo be we).2.1))), (.ref (x + 104 + 2)), (.ref (x + 104 + 3))]))) ∧ τ.2 (x + 104 + 1) = some (.inl (0, 8, (K_seats0 T i j wo be we).2.2.1)) ∧ τ.2 (x + 104 + 2) = some (.inl (0, 256, (K_seats0 T i j wo be we).2.2.2.1)) ∧ τ.2 (x + 104 + 3) = some (.inl (0, 256, (K_seats0 T i j wo be we).2.2.2.2))) := by
  obtain ⟨rfl, hi, rfl, hj, hgo⟩ := hg
  have hw1 := hw.2.1
  have hw2 := hw.2.2.1
  have hwS := hw.2.2.2.1 i hi
  have hwP := hw.2.2.2.2 j hj
  have hn16 := hwS.1
  have hn5 := hwS.2.1
  have h6 := hwP.1
  have hokL : ∀ k, k < (tP T j).1 → okL (tS T i) ((tP T j).2 k) := fun k hk => goT_okL hwS (hgo k hk).1
  unfold RetX
  generalize hQ : (fun (r : Option Value) (τ : ex_S) => r = some (.int ((K_seats0 T i j wo be we).1)) ∧ frm σ τ (x + 104) (x + 108) ∧ (fun τ : ex_S => τ.2 (x + 104) = some (.inr (.inr (7, [(.ref (x + 104 + 1)), (.int (nI ((K_seats0 T i j wo be we).2.1))), (.ref (x + 104 + 2)), (.ref (x + 104 + 3))]))) ∧ τ.2 (x + 104 + 1) = some (.inl (0, 8, (K_seats0 T i j wo be we).2.2.1)) ∧ τ.2 (x + 104 + 2) = some (.inl (0, 256, (K_seats0 T i j wo be we).2.2.2.1)) ∧ τ.2 (x + 104 + 3) = some (.inl (0, 256, (K_seats0 T i j wo be we).2.2.2.2))) τ) = Q
  refine Ret.start pm_17 rfl ?_
  have fr : frm σ σ (x + 104) (x + 108) := frm.rf
  have hX := isX.frm hX0 fr (by omega)
  have hT := isT.frm hT0 fr (by omega)
  obtain ⟨t0, t1, ⟨fs, t2, t3⟩, ⟨fp, t4, t5⟩, t6, t7⟩ := id hT
  have hSi := t6 i (by omega)
  obtain ⟨h0, h1, h2, h3, h4, h5, h6', h7, h8, h9, h10⟩ := id hSi
  have hPj := t7 j (by omega)
  obtain ⟨p0, ⟨pf, p1, p2⟩, p3⟩ := id hPj
  refine Ev.aload_n rfl rfl ?_
  refine Ev.iload_n rfl rfl ?_
  refine Ev.iload_n rfl rfl ?_
  refine Ev.cV2 rfl rfl hX rfl rfl (by decide) ⟨(Nat.le_refl _), (Nat.le_refl _)⟩ (going_some hX hT hw ⟨rfl, hi, rfl, hj, hgo⟩) ?_
  refine Ev.astore rfl rfl rfl ?_
  refine Ev.aload_n rfl rfl ?_
  refine Ev.getf rfl rfl hX rfl ?_
  refine Ev.iload_n rfl rfl ?_
  refine Ev.cV1 rfl rfl t0 rfl rfl (by decide) ⟨(Nat.le_refl _), (Nat.le_refl _)⟩ (schoolAt_some hT hw1 hi) ?_
  refine Ev.astore rfl rfl rfl ?_
  refine Ev.aload rfl rfl ?_
  refine Ev.ifnull rfl ?_
  refine Ev.aload rfl rfl ?_
  refine Ev.ifnull rfl ?_
  refine Ev.aload rfl rfl ?_
  refine Ev.getf rfl rfl h0 rfl ?_
  refine Ev.bipush (v := 8) rfl (by decide) ?_
  refine Ev.jgt (tgt := 47) rfl (by decide) (fun c35 => absurd c35 (nI_nlt (a := 8) hs8 (by omega))) (fun c35 => ?_)
  refine Ev.aload rfl rfl ?_
  refine Ev.getf rfl rfl p0 rfl ?_
  refine Ev.iconst (v := 3) rfl (by decide) ?_
  refine Ev.jle (tgt := 50) rfl (by decide) (fun c44 => ?_) (fun c44 => absurd c44 (nI_nlt (a := 3) hp3 (by omega)))
  refine Ev.iload_n rfl rfl ?_
  refine Ev.zeq (tgt := 75) rfl (by decide) (fun c51 => ?_) (fun c51 => absurd (by decide) c51)
  refine Ev.aload_n rfl rfl ?_
  refine Ev.getf rfl rfl hX rfl ?_
  refine Ev.aload rfl rfl ?_
  refine Ev.aload rfl rfl ?_
  refine Ev.xV2u rfl rfl hsh rfl rfl (by decide) ⟨(Nat.le_refl _), (Nat.le_refl _)⟩ (seatAll_ok hsh h_who h_best h_worth hSi hPj hwP hn16 hn5 hokL (by omega) (by omega)) (fun τ1 f1 q1 => ?_)
  obtain ⟨hsh, h_who, h_best, h_worth⟩ := q1
  have fr := fr.step f1 (by omega) (by omega)
  have hX := isX.frm hX0 fr (by omega)
  have hT := isT.frm hT0 fr (by omega)
  obtain ⟨t0, t1, ⟨fs, t2, t3⟩, ⟨fp, t4, t5⟩, t6, t7⟩ := id hT
  have hSi := t6 i (by omega)
  obtain ⟨h0, h1, h2, h3, h4, h5, h6', h7, h8, h9, h10⟩ := id hSi
  have hPj := t7 j (by omega)
  obtain ⟨p0, ⟨pf, p1, p2⟩, p3⟩ := id hPj
  have hsz : (K_seatAll (tS T i) (tP T j) wo be we).1 ≤ 8 := seatAll_le _ _ _ _ _
  refine Ev.iload_n rfl rfl ?_
  refine Ev.zne (tgt := 98) rfl (by decide) (fun c87 => absurd (by decide) c87) (fun c87 => ?_)
  refine Ev.aload_n rfl rfl ?_
  refine Ev.getf rfl rfl hX rfl ?_
  refine Ev.cV0 rfl rfl hsh rfl rfl (by decide) ⟨(Nat.le_refl _), (Nat.le_refl _)⟩ (most_ok hsh h_who h_best h_worth (by omega)) ?_
  refine Ev.iret (ty := .int) rfl rfl rfl (Nat.le_refl _) (Nat.le_refl _) ?_
  have hK : (K_seats0 T i j wo be we) = (K_most ((K_seatAll (tS T i) (tP T j) wo be we).1) ((K_seatAll (tS T i) (tP T j) wo be we).2.2.1), (K_seatAll (tS T i) (tP T j) wo be we).1, (K_seatAll (tS T i) (tP T j) wo be we).2.1, (K_seatAll (tS T i) (tP T j) wo be we).2.2.1, (K_seatAll (tS T i) (tP T j) wo be we).2.2.2) := by rfl
  rw [← hQ]
  dsimp only
  rw [hK]
  exact ⟨rfl, fr, hsh, h_who, h_best, h_worth⟩
def K_seatsL (T : Tol) (i j : Nat) (l : Nat) (wo be we : Nat → Int32) : Int32 × Nat × (Nat → Int32) × (Nat → Int32) × (Nat → Int32) := if (K_classOf ((K_seatAll (tS T i) (tP T j) wo be we).1) ((K_seatAll (tS T i) (tP T j) wo be we).2.2.1) ((10 + l) - 10)) < (nI ((tP T j).1)) then (K_classOf ((K_seatAll (tS T i) (tP T j) wo be we).1) ((K_seatAll (tS T i) (tP T j) wo be we).2.2.1) ((10 + l) - 10), (K_seatAll (tS T i) (tP T j) wo be we).1, (K_seatAll (tS T i) (tP T j) wo be we).2.1, (K_seatAll (tS T i) (tP T j) wo be we).2.2.1, (K_seatAll (tS T i) (tP T j) wo be we).2.2.2) else ((-1 : Int32), (K_seatAll (tS T i) (tP T j) wo be we).1, (K_seatAll (tS T i) (tP T j) wo be we).2.1, (K_seatAll (tS T i) (tP T j) wo be we).2.2.1, (K_seatAll (tS T i) (tP T j) wo be we).2.2.2)
theorem seatsL_some (hX0 : isX σ x) (hT0 : isT σ (x + 1) T) (hw : wT T) {u v : Int32} {i j : Nat} (hg : gd T u v i j) {n0 : Nat} {wo be we : Nat → Int32} (hsh : σ.2 (x + 104) = some (.inr (.inr (7, [.ref (x + 104 + 1), .int (nI n0), .ref (x + 104 + 2), .ref (x + 104 + 3)])))) (h_who : σ.2 (x + 104 + 1) = some (.inl (0, 8, wo))) (h_best : σ.2 (x + 104 + 2) = some (.inl (0, 256, be))) (h_worth : σ.2 (x + 104 + 3) = some (.inl (0, 256, we))) (hs8 : (tS T i).1 ≤ 8) (hp3 : (tP T j).1 ≤ 3) {l : Nat} (hl : l < (tS T i).1) : RetX Γ m_SD_seats [(.ref x), .int u, .int v, (.int (nI (10 + l)))] σ (x + 104) (x + 108) (some (.int ((K_seatsL T i j l wo be we).1))) (fun τ => τ.2 (x + 104) = some (.inr (.inr (7, [(.ref (x + 104 + 1)), (.int (nI ((K_seatsL T i j l wo be we).2.1))), (.ref (x + 104 + 2)), (.ref (x + 104 + 3))]))) ∧ τ.2 (x + 104 + 1) = some (.inl (0, 8, (K_seatsL T i j l wo be we).2.2.1)) ∧ τ.2 (x + 104 + 2) = some (.inl (0, 256, (K_seatsL T i j l wo be we).2.2.2.1)) ∧ τ.2 (x + 104 + 3) = some (.inl (0, 256, (K_seatsL T i j l wo be we).2.2.2.2))) := by
  obtain ⟨rfl, hi, rfl, hj, hgo⟩ := hg
  have hw1 := hw.2.1
  have hw2 := hw.2.2.1
  have hwS := hw.2.2.2.1 i hi
  have hwP := hw.2.2.2.2 j hj
  have hn16 := hwS.1
  have hn5 := hwS.2.1
  have h6 := hwP.1
  have hokL : ∀ k, k < (tP T j).1 → okL (tS T i) ((tP T j).2 k) := fun k hk => goT_okL hwS (hgo k hk).1
  unfold RetX
  generalize hQ : (fun (r : Option Value) (τ : ex_S) => r = some (.int ((K_seatsL T i j l wo be we).1)) ∧ frm σ τ (x + 104) (x + 108) ∧ (fun τ : ex_S => τ.2 (x + 104) = some (.inr (.inr (7, [(.ref (x + 104 + 1)), (.int (nI ((K_seatsL T i j l wo be we).2.1))), (.ref (x + 104 + 2)), (.ref (x + 104 + 3))]))) ∧ τ.2 (x + 104 + 1) = some (.inl (0, 8, (K_seatsL T i j l wo be we).2.2.1)) ∧ τ.2 (x + 104 + 2) = some (.inl (0, 256, (K_seatsL T i j l wo be we).2.2.2.1)) ∧ τ.2 (x + 104 + 3) = some (.inl (0, 256, (K_seatsL T i j l wo be we).2.2.2.2))) τ) = Q
  refine Ret.start pm_17 rfl ?_
  have fr : frm σ σ (x + 104) (x + 108) := frm.rf
  have hX := isX.frm hX0 fr (by omega)
  have hT := isT.frm hT0 fr (by omega)
  obtain ⟨t0, t1, ⟨fs, t2, t3⟩, ⟨fp, t4, t5⟩, t6, t7⟩ := id hT
  have hSi := t6 i (by omega)
  obtain ⟨h0, h1, h2, h3, h4, h5, h6', h7, h8, h9, h10⟩ := id hSi
  have hPj := t7 j (by omega)
  obtain ⟨p0, ⟨pf, p1, p2⟩, p3⟩ := id hPj
  refine Ev.aload_n rfl rfl ?_
  refine Ev.iload_n rfl rfl ?_
  refine Ev.iload_n rfl rfl ?_
  refine Ev.cV2 rfl rfl hX rfl rfl (by decide) ⟨(Nat.le_refl _), (Nat.le_refl _)⟩ (going_some hX hT hw ⟨rfl, hi, rfl, hj, hgo⟩) ?_
  refine Ev.astore rfl rfl rfl ?_
  refine Ev.aload_n rfl rfl ?_
  refine Ev.getf rfl rfl hX rfl ?_
  refine Ev.iload_n rfl rfl ?_
  refine Ev.cV1 rfl rfl t0 rfl rfl (by decide) ⟨(Nat.le_refl _), (Nat.le_refl _)⟩ (schoolAt_some hT hw1 hi) ?_
  refine Ev.astore rfl rfl rfl ?_
  refine Ev.aload rfl rfl ?_
  refine Ev.ifnull rfl ?_
  refine Ev.aload rfl rfl ?_
  refine Ev.ifnull rfl ?_
  refine Ev.aload rfl rfl ?_
  refine Ev.getf rfl rfl h0 rfl ?_
  refine Ev.bipush (v := 8) rfl (by decide) ?_
  refine Ev.jgt (tgt := 47) rfl (by decide) (fun c35 => absurd c35 (nI_nlt (a := 8) hs8 (by omega))) (fun c35 => ?_)
  refine Ev.aload rfl rfl ?_
  refine Ev.getf rfl rfl p0 rfl ?_
  refine Ev.iconst (v := 3) rfl (by decide) ?_
  refine Ev.jle (tgt := 50) rfl (by decide) (fun c44 => ?_) (fun c44 => absurd c44 (nI_nlt (a := 3) hp3 (by omega)))
  refine Ev.iload_n rfl rfl ?_
  refine Ev.zeq (tgt := 75) rfl (by decide) (fun c51 => absurd c51 (nI_ne0 (by omega) (by omega))) (fun c51 => ?_)
  refine Ev.iload_n rfl rfl ?_
  refine Ev.bipush (v := 10) rfl (by decide) ?_
  refine Ev.jlt (tgt := 72) rfl (by decide) (fun c57 => absurd c57 (nI_nlt (b := 10) (by omega) (by omega))) (fun c57 => ?_)
  refine Ev.iload_n rfl rfl ?_
  refine Ev.bipush (v := 10) rfl (by decide) ?_
  refine Ev.aload rfl rfl ?_
  refine Ev.getf rfl rfl h0 rfl ?_
  refine Ev.iadd rfl ?_
  refine Ev.jlt (tgt := 75) rfl (by decide) (fun c69 => ?_) (fun c69 => absurd (show nI (10 + l) < 10 + nI (tS T i).1 from by rw [show (10 : Int32) + nI (tS T i).1 = nI (10 + (tS T i).1) from nq_add (a := 10) rfl rfl]; exact nI_lt (by omega) (by omega)) c69)
  refine Ev.aload_n rfl rfl ?_
  refine Ev.getf rfl rfl hX rfl ?_
  refine Ev.aload rfl rfl ?_
  refine Ev.aload rfl rfl ?_
  refine Ev.xV2u rfl rfl hsh rfl rfl (by decide) ⟨(Nat.le_refl _), (Nat.le_refl _)⟩ (seatAll_ok hsh h_who h_best h_worth hSi hPj hwP hn16 hn5 hokL (by omega) (by omega)) (fun τ1 f1 q1 => ?_)
  obtain ⟨hsh, h_who, h_best, h_worth⟩ := q1
  have fr := fr.step f1 (by omega) (by omega)
  have hX := isX.frm hX0 fr (by omega)
  have hT := isT.frm hT0 fr (by omega)
  obtain ⟨t0, t1, ⟨fs, t2, t3⟩, ⟨fp, t4, t5⟩, t6, t7⟩ := id hT
  have hSi := t6 i (by omega)
  obtain ⟨h0, h1, h2, h3, h4, h5, h6', h7, h8, h9, h10⟩ := id hSi
  have hPj := t7 j (by omega)
  obtain ⟨p0, ⟨pf, p1, p2⟩, p3⟩ := id hPj
  have hsz : (K_seatAll (tS T i) (tP T j) wo be we).1 ≤ 8 := seatAll_le _ _ _ _ _
  refine Ev.iload_n rfl rfl ?_
  refine Ev.zne (tgt := 98) rfl (by decide) (fun c87 => ?_) (fun c87 => absurd c87 (nI_ne0 (by omega) (by omega)))
  refine Ev.aload_n rfl rfl ?_
  refine Ev.getf rfl rfl hX rfl ?_
  refine Ev.iload_n rfl rfl ?_
  refine Ev.bipush (v := 10) rfl (by decide) ?_
  refine Ev.isub rfl ?_
  rw [show (nI (10 + l)) - (10 : Int32) = nI ((10 + l) - 10) from (nq_sub (a := 10 + l) (b := 10) rfl (rfl : (10 : Int32) = nI 10) (by omega))]
  refine Ev.cV1 rfl rfl hsh rfl rfl (by decide) ⟨(Nat.le_refl _), (Nat.le_refl _)⟩ (classOf_ok hsh h_who h_best h_worth (by omega) (l := (10 + l) - 10) (by omega)) ?_
  refine Ev.istore rfl rfl rfl ?_
  refine Ev.iload rfl rfl ?_
  refine Ev.aload rfl rfl ?_
  refine Ev.getf rfl rfl p0 rfl ?_
  refine Ev.jge (tgt := 126) rfl (by decide) (fun c118 => ?_) (fun c118 => ?_)
  · skip
    refine Ev.iconst (v := (-1)) rfl (by decide) ?_
    refine Ev.iret (ty := .int) rfl rfl rfl (Nat.le_refl _) (Nat.le_refl _) ?_
    have hK : (K_seatsL T i j l wo be we) = ((-1 : Int32), (K_seatAll (tS T i) (tP T j) wo be we).1, (K_seatAll (tS T i) (tP T j) wo be we).2.1, (K_seatAll (tS T i) (tP T j) wo be we).2.2.1, (K_seatAll (tS T i) (tP T j) wo be we).2.2.2) := by
      unfold K_seatsL
      rw [if_neg c118]
    rw [← hQ]
    dsimp only
    rw [hK]
    exact ⟨rfl, fr, hsh, h_who, h_best, h_worth⟩
  · skip
    refine Ev.iload rfl rfl ?_
    refine Ev.goto (tgt := 127) rfl (by decide) ?_
    refine Ev.iret (ty := .int) rfl rfl rfl (Nat.le_refl _) (Nat.le_refl _) ?_
    have hK : (K_seatsL T i j l wo be we) = (K_classOf ((K_seatAll (tS T i) (tP T j) wo be we).1) ((K_seatAll (tS T i) (tP T j) wo be we).2.2.1) ((10 + l) - 10), (K_seatAll (tS T i) (tP T j) wo be we).1, (K_seatAll (tS T i) (tP T j) wo be we).2.1, (K_seatAll (tS T i) (tP T j) wo be we).2.2.1, (K_seatAll (tS T i) (tP T j) wo be we).2.2.2) := by
      unfold K_seatsL
      rw [if_pos c118]
    rw [← hQ]
    dsimp only
    rw [hK]
    exact ⟨rfl, fr, hsh, h_who, h_best, h_worth⟩
def K_ill (T : Tol) (i j : Nat) (t n0 : Nat) (wo be we : Nat → Int32) : Int32 × Nat × (Nat → Int32) × (Nat → Int32) × (Nat → Int32) := if (6 : Int32) < (K_bc ((K_sits (tP T j)) &&& ((K_seat (tP T j) (nI t)) ^^^ (-1 : Int32)))) then ((-1 : Int32), n0, wo, be, we) else ((K_without (tS T i) (tP T j) (nI t) ((K_sits (tP T j)) &&& ((K_seat (tP T j) (nI t)) ^^^ (-1 : Int32))) wo be we).1, (K_without (tS T i) (tP T j) (nI t) ((K_sits (tP T j)) &&& ((K_seat (tP T j) (nI t)) ^^^ (-1 : Int32))) wo be we).2.1, (K_without (tS T i) (tP T j) (nI t) ((K_sits (tP T j)) &&& ((K_seat (tP T j) (nI t)) ^^^ (-1 : Int32))) wo be we).2.2.1, (K_without (tS T i) (tP T j) (nI t) ((K_sits (tP T j)) &&& ((K_seat (tP T j) (nI t)) ^^^ (-1 : Int32))) wo be we).2.2.2.1, (K_without (tS T i) (tP T j) (nI t) ((K_sits (tP T j)) &&& ((K_seat (tP T j) (nI t)) ^^^ (-1 : Int32))) wo be we).2.2.2.2)
theorem ill_some (hX0 : isX σ x) (hT0 : isT σ (x + 1) T) (hw : wT T) {u v : Int32} {i j : Nat} (hg : gd T u v i j) {n0 : Nat} {wo be we : Nat → Int32} (hsh : σ.2 (x + 104) = some (.inr (.inr (7, [.ref (x + 104 + 1), .int (nI n0), .ref (x + 104 + 2), .ref (x + 104 + 3)])))) (h_who : σ.2 (x + 104 + 1) = some (.inl (0, 8, wo))) (h_best : σ.2 (x + 104 + 2) = some (.inl (0, 256, be))) (h_worth : σ.2 (x + 104 + 3) = some (.inl (0, 256, we))) {t : Nat} (ht : t < (tS T i).2.1) : RetX Γ m_SD_ill [(.ref x), .int u, .int v, (.int (nI t))] σ (x + 104) (x + 108) (some (.int ((K_ill T i j t n0 wo be we).1))) (fun τ => τ.2 (x + 104) = some (.inr (.inr (7, [(.ref (x + 104 + 1)), (.int (nI ((K_ill T i j t n0 wo be we).2.1))), (.ref (x + 104 + 2)), (.ref (x + 104 + 3))]))) ∧ τ.2 (x + 104 + 1) = some (.inl (0, 8, (K_ill T i j t n0 wo be we).2.2.1)) ∧ τ.2 (x + 104 + 2) = some (.inl (0, 256, (K_ill T i j t n0 wo be we).2.2.2.1)) ∧ τ.2 (x + 104 + 3) = some (.inl (0, 256, (K_ill T i j t n0 wo be we).2.2.2.2))) := by
  obtain ⟨rfl, hi, rfl, hj, hgo⟩ := hg
  have hw1 := hw.2.1
  have hw2 := hw.2.2.1
  have hwS := hw.2.2.2.1 i hi
  have hwP := hw.2.2.2.2 j hj
  have hn16 := hwS.1
  have hn5 := hwS.2.1
  have h6 := hwP.1
  have hokL : ∀ k, k < (tP T j).1 → okL (tS T i) ((tP T j).2 k) := fun k hk => goT_okL hwS (hgo k hk).1
  unfold RetX
  generalize hQ : (fun (r : Option Value) (τ : ex_S) => r = some (.int ((K_ill T i j t n0 wo be we).1)) ∧ frm σ τ (x + 104) (x + 108) ∧ (fun τ : ex_S => τ.2 (x + 104) = some (.inr (.inr (7, [(.ref (x + 104 + 1)), (.int (nI ((K_ill T i j t n0 wo be we).2.1))), (.ref (x + 104 + 2)), (.ref (x + 104 + 3))]))) ∧ τ.2 (x + 104 + 1) = some (.inl (0, 8, (K_ill T i j t n0 wo be we).2.2.1)) ∧ τ.2 (x + 104 + 2) = some (.inl (0, 256, (K_ill T i j t n0 wo be we).2.2.2.1)) ∧ τ.2 (x + 104 + 3) = some (.inl (0, 256, (K_ill T i j t n0 wo be we).2.2.2.2))) τ) = Q
  refine Ret.start pm_22 rfl ?_
  have fr : frm σ σ (x + 104) (x + 108) := frm.rf
  have hX := isX.frm hX0 fr (by omega)
  have hT := isT.frm hT0 fr (by omega)
  obtain ⟨t0, t1, ⟨fs, t2, t3⟩, ⟨fp, t4, t5⟩, t6, t7⟩ := id hT
  have hSi := t6 i (by omega)
  obtain ⟨h0, h1, h2, h3, h4, h5, h6', h7, h8, h9, h10⟩ := id hSi
  have hPj := t7 j (by omega)
  obtain ⟨p0, ⟨pf, p1, p2⟩, p3⟩ := id hPj
  refine Ev.aload_n rfl rfl ?_
  refine Ev.iload_n rfl rfl ?_
  refine Ev.iload_n rfl rfl ?_
  refine Ev.cV2 rfl rfl hX rfl rfl (by decide) ⟨(Nat.le_refl _), (Nat.le_refl _)⟩ (going_some hX hT hw ⟨rfl, hi, rfl, hj, hgo⟩) ?_
  refine Ev.astore rfl rfl rfl ?_
  refine Ev.aload_n rfl rfl ?_
  refine Ev.getf rfl rfl hX rfl ?_
  refine Ev.iload_n rfl rfl ?_
  refine Ev.cV1 rfl rfl t0 rfl rfl (by decide) ⟨(Nat.le_refl _), (Nat.le_refl _)⟩ (schoolAt_some hT hw1 hi) ?_
  refine Ev.astore rfl rfl rfl ?_
  refine Ev.aload rfl rfl ?_
  refine Ev.ifnull rfl ?_
  refine Ev.aload rfl rfl ?_
  refine Ev.ifnull rfl ?_
  refine Ev.aload rfl rfl ?_
  refine Ev.iload_n rfl rfl ?_
  refine Ev.cV1 rfl rfl h0 rfl rfl (by decide) ⟨(Nat.le_refl _), (Nat.le_refl _)⟩ (hasT_y hSi hn5 ht) ?_
  refine Ev.zne (tgt := 39) rfl (by decide) (fun c34 => ?_) (fun c34 => absurd c34 (by decide))
  refine Ev.aload rfl rfl ?_
  refine Ev.iload_n rfl rfl ?_
  refine Ev.cV1 rfl rfl p0 rfl rfl (by decide) ⟨(Nat.le_refl _), (Nat.le_refl _)⟩ (seatW_ok hPj h6 _) ?_
  refine Ev.istore rfl rfl rfl ?_
  refine Ev.aload rfl rfl ?_
  refine Ev.cV0 rfl rfl p0 rfl rfl (by decide) ⟨(Nat.le_refl _), (Nat.le_refl _)⟩ (seated_ok hPj hwP) ?_
  refine Ev.iload rfl rfl ?_
  refine Ev.iconst (v := (-1)) rfl (by decide) ?_
  refine Ev.ixor rfl ?_
  refine Ev.iand rfl ?_
  refine Ev.istore rfl rfl rfl ?_
  refine Ev.iload rfl rfl ?_
  refine Ev.cS1 rfl rfl rfl (by decide) ⟨(Nat.le_refl _), (Nat.le_refl _)⟩ (bc_ok _) ?_
  refine Ev.bipush (v := 6) rfl (by decide) ?_
  refine Ev.jle (tgt := 71) rfl (by decide) (fun c66 => ?_) (fun c66 => ?_)
  · skip
    refine Ev.aload_n rfl rfl ?_
    refine Ev.getf rfl rfl hX rfl ?_
    refine Ev.aload rfl rfl ?_
    refine Ev.aload rfl rfl ?_
    refine Ev.iload_n rfl rfl ?_
    refine Ev.iload rfl rfl ?_
    refine Ev.xV4 rfl rfl hsh rfl rfl (by decide) ⟨(Nat.le_refl _), (Nat.le_refl _)⟩ (without_ok hsh h_who h_best h_worth hSi hPj hwP hn16 hn5 hokL (by omega) (by omega) _ _) (fun τ1 f1 q1 => ?_)
    obtain ⟨hsh, h_who, h_best, h_worth⟩ := q1
    have fr := fr.step f1 (by omega) (by omega)
    have hX := isX.frm hX0 fr (by omega)
    have hT := isT.frm hT0 fr (by omega)
    obtain ⟨t0, t1, ⟨fs, t2, t3⟩, ⟨fp, t4, t5⟩, t6, t7⟩ := id hT
    have hSi := t6 i (by omega)
    obtain ⟨h0, h1, h2, h3, h4, h5, h6', h7, h8, h9, h10⟩ := id hSi
    have hPj := t7 j (by omega)
    obtain ⟨p0, ⟨pf, p1, p2⟩, p3⟩ := id hPj
    refine Ev.iret (ty := .int) rfl rfl rfl (Nat.le_refl _) (Nat.le_refl _) ?_
    have hK : (K_ill T i j t n0 wo be we) = ((K_without (tS T i) (tP T j) (nI t) ((K_sits (tP T j)) &&& ((K_seat (tP T j) (nI t)) ^^^ (-1 : Int32))) wo be we).1, (K_without (tS T i) (tP T j) (nI t) ((K_sits (tP T j)) &&& ((K_seat (tP T j) (nI t)) ^^^ (-1 : Int32))) wo be we).2.1, (K_without (tS T i) (tP T j) (nI t) ((K_sits (tP T j)) &&& ((K_seat (tP T j) (nI t)) ^^^ (-1 : Int32))) wo be we).2.2.1, (K_without (tS T i) (tP T j) (nI t) ((K_sits (tP T j)) &&& ((K_seat (tP T j) (nI t)) ^^^ (-1 : Int32))) wo be we).2.2.2.1, (K_without (tS T i) (tP T j) (nI t) ((K_sits (tP T j)) &&& ((K_seat (tP T j) (nI t)) ^^^ (-1 : Int32))) wo be we).2.2.2.2) := by
      unfold K_ill
      rw [if_neg c66]
    rw [← hQ]
    dsimp only
    rw [hK]
    exact ⟨rfl, fr, hsh, h_who, h_best, h_worth⟩
  · skip
    refine Ev.iconst (v := (-1)) rfl (by decide) ?_
    refine Ev.iret (ty := .int) rfl rfl rfl (Nat.le_refl _) (Nat.le_refl _) ?_
    have hK : (K_ill T i j t n0 wo be we) = ((-1 : Int32), n0, wo, be, we) := by
      unfold K_ill
      rw [if_pos c66]
    rw [← hQ]
    dsimp only
    rw [hK]
    exact ⟨rfl, fr, hsh, h_who, h_best, h_worth⟩
end
end

