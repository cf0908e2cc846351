/-! Methods printed by sym.py that write scratch (class): the spare school, the trial class, what is found. -/
noncomputable section
/-- a school with other steps -/
def S_st (S : Sch) (f : Nat → Int32) : Sch := (S.1, S.2.1, fun j => if j = 0 then f else S.2.2 j)
def L_set (C : Les) (j : Nat) (v : Int32) : Les := fun f => if f = j then v else C f
theorem S_st_self (S : Sch) : S_st S (S.2.2 0) = S := by
  obtain ⟨n, m, f⟩ := S
  unfold S_st
  dsimp only
  refine congrArg (fun g => (n, m, g)) (funext fun j => ?_)
  split
  · rename_i h; rw [h]
  · rfl
theorem isS_cp {τ : ex_S} {a : Nat} {S : Sch} (h : isS τ a S) : isS τ a (S_st S (S.2.2 0)) := by
  rw [S_st_self]
  exact h
theorem isS_st2 {σ τ : ex_S} {a : Nat} {S : Sch} {f0 f : Nat → Int32} (h : isS σ a (S_st S f0)) (f1 : frm σ τ (a + 1) (a + 1 + 1)) (q : τ.2 (a + 1) = some (.inl (0, 17, f))) : isS τ a (S_st S f) := by
  obtain ⟨h0, h1, h2, h3, h4, h5, h6, h7, h8, h9, h10⟩ := h
  exact ⟨(f1.2 _ (by omega)).trans h0, q, (f1.2 _ (by omega)).trans h2, (f1.2 _ (by omega)).trans h3, (f1.2 _ (by omega)).trans h4, (f1.2 _ (by omega)).trans h5, (f1.2 _ (by omega)).trans h6, (f1.2 _ (by omega)).trans h7, (f1.2 _ (by omega)).trans h8, (f1.2 _ (by omega)).trans h9, (f1.2 _ (by omega)).trans h10⟩
theorem rg_nlt {st : Int32} (h : rg st 0 11) : ¬ st < 0 := by
  have e : (0 : Int32).toInt = 0 := by decide
  rw [lt_toInt, e]; have := h.1; omega
theorem rg_ngt {st : Int32} (h : rg st 0 11) : ¬ (11 : Int32) < st := by
  have e : (11 : Int32).toInt = 11 := by decide
  rw [lt_toInt, e]; have := h.2; omega
section
variable {Γ : ex_G} {σ : ex_S} {x q a p y : Nat} {S : Sch} {T : Tol} {P : Pln} {g A : Nat → Int32}
def F_rise_2 (n : Nat) (w : Int32) (f : Nat → Int32) : Nat → (Nat → Int32) → (Nat → Int32) := fun k z => (upd z k ((z k) + ((w >>> ((nI k) &&& 31)) &&& (1 : Int32))))
def K_rise (n : Nat) (w : Int32) (f : Nat → Int32) : (Nat → Int32) := (fo (F_rise_2 n w f) (n) 0 f)
theorem rise_ok {n : Nat} {r2 r3 r4 r5 r6 r7 r8 r9 r10 r11 : Value} {f : Nat → Int32} (hb : σ.2 a = some (.inr (.inr (2, [.int (nI n), .ref (a + 1), r2, r3, r4, r5, r6, r7, r8, r9, r10, r11])))) (hst : σ.2 (a + 1) = some (.inl (0, 17, f))) (hn : n ≤ 16) (w : Int32) : RetX Γ m_School_rise [(.ref a), (.int w)] σ (a + 1) (a + 1 + 1) none (fun τ => τ.2 (a + 1) = some (.inl (0, 17, (K_rise n w f)))) := by
  unfold RetX
  generalize hQ : (fun (r : Option Value) (τ : ex_S) => r = none ∧ frm σ τ (a + 1) (a + 1 + 1) ∧ (fun τ : ex_S => τ.2 (a + 1) = some (.inl (0, 17, (K_rise n w f)))) τ) = Q
  refine Ret.start pm_94 rfl ?_
  have fr : frm σ σ (a + 1) (a + 1 + 1) := frm.rf
  have h0 := frm.cell fr hb (by omega)
  refine Ev.iconst (v := 0) rfl (by decide) ?_
  refine Ev.istore_n rfl rfl rfl ?_
  refine Ev.fg (L := [some (.ref a), some (.int w), some (.int (nI 0))]) ?_ (gs rfl (gs rfl (gs (congrArg Value.int (rfl : (0 : Int32) = nI 0).symm) gz)))
  refine lp (fun (k : Nat) (z : (Nat → Int32)) => ∀ τ' : ex_S, frm σ τ' (a + 1) (a + 1 + 1) → τ'.2 (a + 1) = some (.inl (0, 17, z)) → Ev Γ 0 0 m_School_rise 0 0 2 [some (.ref a), some (.int w), some (.int (nI k))] [] τ' Q) (F_rise_2 n w f) (n) (fun k z hk hx => ?_) (n) 0 f (by omega) ?_ σ fr hst
  · skip
    intro τ' fr hst
    have h0 := frm.cell fr hb (by omega)
    refine Ev.iload_n rfl rfl ?_
    refine Ev.aload_n rfl rfl ?_
    refine Ev.getf rfl rfl h0 rfl ?_
    refine Ev.jge (tgt := 30) rfl (by decide) (fun c7 => absurd (nI_lt hk (by omega)) c7) (fun c7 => ?_)
    refine Ev.aload_n rfl rfl ?_
    refine Ev.getf rfl rfl h0 rfl ?_
    refine Ev.iload_n rfl rfl ?_
    refine Ev.dup2 rfl rfl rfl ?_
    refine Ev.ialdN (k := k) rfl hst rfl ⟨(by omega), by decide⟩ ?_
    refine Ev.iload_n rfl rfl ?_
    refine Ev.iload_n rfl rfl ?_
    refine Ev.ishr rfl ?_
    refine Ev.iconst (v := 1) rfl (by decide) ?_
    refine Ev.iand rfl ?_
    refine Ev.iadd rfl ?_
    refine Ev.iastE (k := k) rfl hst rfl ⟨(by omega), by decide⟩ (fun τ1 f1 hst => ?_)
    have fr := fr.step f1 (by omega) (by omega)
    have h0 := frm.cell fr hb (by omega)
    refine Ev.iinc (d := 1) rfl rfl rfl (by decide) rfl ?_
    refine Ev.goto (tgt := 2) rfl (by decide) ?_
    have hF : (F_rise_2 n w f) k z = (upd z k ((z k) + ((w >>> ((nI k) &&& 31)) &&& (1 : Int32)))) := by rfl
    rw [hF] at hx
    exact (hx τ1 fr hst).fg (gs rfl (gs rfl (gs (congrArg Value.int (show nI (k + 1) = (nI k) + (1 : Int32) from (nq_to (a := k + 1) (nq_add (a := k) (b := 1) rfl (rfl : (1 : Int32) = nI 1)) (by omega)).symm)) gz)))
  · skip
    intro τ' fr hst
    have h0 := frm.cell fr hb (by omega)
    refine Ev.iload_n rfl rfl ?_
    refine Ev.aload_n rfl rfl ?_
    refine Ev.getf rfl rfl h0 rfl ?_
    refine Ev.jge (tgt := 30) rfl (by decide) (fun c7 => ?_) (fun c7 => absurd c7 (nI_nlt (Nat.le_refl _) (by omega)))
    refine Ev.ret rfl rfl (Nat.le_refl _) (Nat.le_refl _) ?_
    have hK : (K_rise n w f) = (fo (F_rise_2 n w f) (n) 0 f) := by rfl
    rw [← hQ]
    dsimp only
    rw [hK]
    exact ⟨rfl, fr, hst⟩
def K_twoY (S : Sch) (P P2 : Pln) : Int32 × (Nat → Int32) := ((K_inAll S P) + (K_inAll (S_st S (K_rise S.1 (K_rising S P) (S.2.2 0))) P2), (K_rise S.1 (K_rising S P) (S.2.2 0)))
theorem twoY_ok {pp : Nat} {P2 : Pln} {D0 : Sch} (hX0 : isX σ x) (hsp : isS σ (x + 84) D0) (hS0 : isS σ a S) (hP0 : isP σ p P) (hP20 : isP σ pp P2) (hwp : wP P) (hwp2 : wP P2) (hn : S.1 ≤ 16) (hn5 : S.2.1 ≤ 5) (ht : ∀ k, k < P.1 → okL S (P.2 k)) (ht2 : ∀ k, k < P2.1 → okL S (P2.2 k)) (ha : a + 11 ≤ x + 84) (hp : p + 8 ≤ x + 84) (hp2 : pp + 8 ≤ x + 84) : RetX Γ m_SD_inTwoYears [(.ref x), (.ref a), (.ref p), (.ref pp)] σ (x + 84) (x + 95) (some (.int ((K_twoY S P P2).1))) (fun τ => isS τ (x + 84) (S_st S ((K_twoY S P P2).2))) := by
  have h6 := hwp.1
  have h62 := hwp2.1
  unfold RetX
  generalize hQ : (fun (r : Option Value) (τ : ex_S) => r = some (.int ((K_twoY S P P2).1)) ∧ frm σ τ (x + 84) (x + 95) ∧ (fun τ : ex_S => isS τ (x + 84) (S_st S ((K_twoY S P P2).2))) τ) = Q
  refine Ret.start pm_50 rfl ?_
  have fr : frm σ σ (x + 84) (x + 95) := frm.rf
  have hX := isX.frm hX0 fr (by omega)
  have hS := hS0.frm fr (by omega)
  have hP := hP0.frm fr (by omega)
  have hP2 := hP20.frm fr (by omega)
  obtain ⟨h0, h1, h2, h3, h4, h5, h6', h7, h8, h9, h10⟩ := id hS
  obtain ⟨p0, ⟨pf, p1, p2⟩, p3⟩ := id hP
  obtain ⟨r0, ⟨rf, r1, r2⟩, r3⟩ := id hP2
  obtain ⟨e0, e1, e2, e3, e4, e5, e6, e7, e8, e9, e10⟩ := id hsp
  refine Ev.aload_n rfl rfl ?_
  refine Ev.getf rfl rfl hX rfl ?_
  refine Ev.aload_n rfl rfl ?_
  refine Ev.xV1u rfl rfl e0 rfl rfl (by decide) ⟨(Nat.le_refl _), (Nat.le_refl _)⟩ (copyS_ok hsp hS (by omega)) (fun τ1 f1 q1 => ?_)
  have hsp : isS τ1 (x + 84) (S_st S (S.2.2 0)) := isS_cp q1
  have fr := fr.step f1 (by omega) (by omega)
  have hX := isX.frm hX0 fr (by omega)
  have hS := hS0.frm fr (by omega)
  have hP := hP0.frm fr (by omega)
  have hP2 := hP20.frm fr (by omega)
  obtain ⟨h0, h1, h2, h3, h4, h5, h6', h7, h8, h9, h10⟩ := id hS
  obtain ⟨p0, ⟨pf, p1, p2⟩, p3⟩ := id hP
  obtain ⟨r0, ⟨rf, r1, r2⟩, r3⟩ := id hP2
  obtain ⟨e0, e1, e2, e3, e4, e5, e6, e7, e8, e9, e10⟩ := id hsp
  refine Ev.aload_n rfl rfl ?_
  refine Ev.getf rfl rfl hX rfl ?_
  refine Ev.aload_n rfl rfl ?_
  refine Ev.aload_n rfl rfl ?_
  refine Ev.cV1 rfl rfl h0 rfl rfl (by decide) ⟨(Nat.le_refl _), (Nat.le_refl _)⟩ (rising_ok hS hP hwp hn hn5 (fun k hk => (ht k hk))) ?_
  refine Ev.xV1u rfl rfl e0 rfl rfl (by decide) ⟨(Nat.le_refl _), (Nat.le_refl _)⟩ (rise_ok e0 e1 hn _) (fun τ2 f1 q1 => ?_)
  have hsp : isS τ2 (x + 84) (S_st S (K_rise S.1 (K_rising S P) (S.2.2 0))) := isS_st2 hsp f1 q1
  have fr := fr.step f1 (by omega) (by omega)
  have hX := isX.frm hX0 fr (by omega)
  have hS := hS0.frm fr (by omega)
  have hP := hP0.frm fr (by omega)
  have hP2 := hP20.frm fr (by omega)
  obtain ⟨h0, h1, h2, h3, h4, h5, h6', h7, h8, h9, h10⟩ := id hS
  obtain ⟨p0, ⟨pf, p1, p2⟩, p3⟩ := id hP
  obtain ⟨r0, ⟨rf, r1, r2⟩, r3⟩ := id hP2
  obtain ⟨e0, e1, e2, e3, e4, e5, e6, e7, e8, e9, e10⟩ := id hsp
  refine Ev.aload_n rfl rfl ?_
  refine Ev.aload_n rfl rfl ?_
  refine Ev.cV1 rfl rfl h0 rfl rfl (by decide) ⟨(Nat.le_refl _), (Nat.le_refl _)⟩ (inAll_ok hS hP h6 (fun k hk => (ht k (by omega))) hn5) ?_
  refine Ev.aload_n rfl rfl ?_
  refine Ev.getf rfl rfl hX rfl ?_
  refine Ev.aload_n rfl rfl ?_
  refine Ev.cV1 rfl rfl e0 rfl rfl (by decide) ⟨(Nat.le_refl _), (Nat.le_refl _)⟩ (inAll_ok hsp hP2 h62 (fun k hk => (ht2 k (by omega))) hn5) ?_
  refine Ev.iadd rfl ?_
  refine Ev.iret (ty := .int) rfl rfl rfl (Nat.le_refl _) (Nat.le_refl _) ?_
  have hK : (K_twoY S P P2) = ((K_inAll S P) + (K_inAll (S_st S (K_rise S.1 (K_rising S P) (S.2.2 0))) P2), (K_rise S.1 (K_rising S P) (S.2.2 0))) := by rfl
  rw [← hQ]
  dsimp only
  rw [hK]
  exact ⟨rfl, fr, hsp⟩
def F_ladder_53 (T : Tol) (i j : Nat) (n : Nat) : Nat → (Nat → Int32) → (Nat → Int32) := fun k z => (K_rise (tS T i).1 (K_rising (S_st (tS T i) z) (tP T j)) z)
def K_ladder (T : Tol) (i j : Nat) (n : Nat) : Int32 × (Nat → Int32) := (K_inAll (S_st (tS T i) (fo (F_ladder_53 T i j n) (n - 1) 1 ((tS T i).2.2 0))) (tP T j), (fo (F_ladder_53 T i j n) (n - 1) 1 ((tS T i).2.2 0)))
theorem ladder_some (hX0 : isX σ x) (hT0 : isT σ (x + 1) T) (hw : wT T) {u v : Int32} {i j : Nat} (hg : gd T u v i j) {D0 : Sch} (hsp : isS σ (x + 84) D0) {n : Nat} (hn1 : 1 ≤ n) (hn2 : n ≤ 12) : RetX Γ m_SD_ladder [(.ref x), .int u, .int v, (.int (nI n))] σ (x + 84) (x + 95) (some (.int ((K_ladder T i j n).1))) (fun τ => isS τ (x + 84) (S_st (tS T i) ((K_ladder T i j n).2))) := by
  obtain ⟨rfl, hi, rfl, hj, hgo⟩ := hg
  have hw1 := hw.2.1
  have hw2 := hw.2.2.1
  have hwS := hw.2.2.2.1 i hi
  have hwP := hw.2.2.2.2 j hj
  have hn16 := hwS.1
  have hn5 := hwS.2.1
  have h6 := hwP.1
  have hokL : ∀ k, k < (tP T j).1 → okL (tS T i) ((tP T j).2 k) := fun k hk => goT_okL hwS (hgo k hk).1
  unfold RetX
  generalize hQ : (fun (r : Option Value) (τ : ex_S) => r = some (.int ((K_ladder T i j n).1)) ∧ frm σ τ (x + 84) (x + 95) ∧ (fun τ : ex_S => isS τ (x + 84) (S_st (tS T i) ((K_ladder T i j n).2))) τ) = Q
  refine Ret.start pm_25 rfl ?_
  have fr : frm σ σ (x + 84) (x + 95) := frm.rf
  have hX := isX.frm hX0 fr (by omega)
  have hT := isT.frm hT0 fr (by omega)
  obtain ⟨t0, t1, ⟨fs, t2, t3⟩, ⟨fp, t4, t5⟩, t6, t7⟩ := id hT
  have hSi := t6 i (by omega)
  obtain ⟨h0, h1, h2, h3, h4, h5, h6', h7, h8, h9, h10⟩ := id hSi
  have hPj := t7 j (by omega)
  obtain ⟨p0, ⟨pf, p1, p2⟩, p3⟩ := id hPj
  obtain ⟨e0, e1, e2, e3, e4, e5, e6, e7, e8, e9, e10⟩ := id hsp
  refine Ev.aload_n rfl rfl ?_
  refine Ev.iload_n rfl rfl ?_
  refine Ev.iload_n rfl rfl ?_
  refine Ev.cV2 rfl rfl hX rfl rfl (by decide) ⟨(Nat.le_refl _), (Nat.le_refl _)⟩ (going_some hX hT hw ⟨rfl, hi, rfl, hj, hgo⟩) ?_
  refine Ev.astore rfl rfl rfl ?_
  refine Ev.aload_n rfl rfl ?_
  refine Ev.getf rfl rfl hX rfl ?_
  refine Ev.iload_n rfl rfl ?_
  refine Ev.cV1 rfl rfl t0 rfl rfl (by decide) ⟨(Nat.le_refl _), (Nat.le_refl _)⟩ (schoolAt_some hT hw1 hi) ?_
  refine Ev.astore rfl rfl rfl ?_
  refine Ev.aload rfl rfl ?_
  refine Ev.ifnull rfl ?_
  refine Ev.aload rfl rfl ?_
  refine Ev.ifnull rfl ?_
  refine Ev.iload_n rfl rfl ?_
  refine Ev.iconst (v := 1) rfl (by decide) ?_
  refine Ev.jlt (tgt := 39) rfl (by decide) (fun c30 => absurd c30 (nI_nlt (b := 1) hn1 (by omega))) (fun c30 => ?_)
  refine Ev.iload_n rfl rfl ?_
  refine Ev.bipush (v := 12) rfl (by decide) ?_
  refine Ev.jle (tgt := 41) rfl (by decide) (fun c36 => ?_) (fun c36 => absurd c36 (nI_nlt (a := 12) hn2 (by omega)))
  refine Ev.aload_n rfl rfl ?_
  refine Ev.getf rfl rfl hX rfl ?_
  refine Ev.aload rfl rfl ?_
  refine Ev.xV1u rfl rfl e0 rfl rfl (by decide) ⟨(Nat.le_refl _), (Nat.le_refl _)⟩ (copyS_ok hsp hSi (by omega)) (fun τ1 f1 q1 => ?_)
  have hsp : isS τ1 (x + 84) (S_st (tS T i) ((tS T i).2.2 0)) := isS_cp q1
  have fr := fr.step f1 (by omega) (by omega)
  have hX := isX.frm hX0 fr (by omega)
  have hT := isT.frm hT0 fr (by omega)
  obtain ⟨t0, t1, ⟨fs, t2, t3⟩, ⟨fp, t4, t5⟩, t6, t7⟩ := id hT
  have hSi := t6 i (by omega)
  obtain ⟨h0, h1, h2, h3, h4, h5, h6', h7, h8, h9, h10⟩ := id hSi
  have hPj := t7 j (by omega)
  obtain ⟨p0, ⟨pf, p1, p2⟩, p3⟩ := id hPj
  obtain ⟨e0, e1, e2, e3, e4, e5, e6, e7, e8, e9, e10⟩ := id hsp
  refine Ev.iconst (v := 1) rfl (by decide) ?_
  refine Ev.istore rfl rfl rfl ?_
  refine Ev.fg (L := [some (.ref x), none, none, some (.int (nI n)), some (.ref (x + 1 + 15 + 19 * j)), none, some (.int (nI 1))]) ?_ (gs rfl (gn (gn (gs rfl (gs rfl (gn (gs (congrArg Value.int (rfl : (1 : Int32) = nI 1).symm) gz)))))))
  refine lp (fun (k : Nat) (z : (Nat → Int32)) => ∀ τ' : ex_S, frm σ τ' (x + 84) (x + 95) → isS τ' (x + 84) (S_st (tS T i) z) → Ev Γ 0 0 m_SD_ladder 0 0 53 [some (.ref x), none, none, some (.int (nI n)), some (.ref (x + 1 + 15 + 19 * j)), none, some (.int (nI k))] [] τ' Q) (F_ladder_53 T i j n) (n) (fun k z hk hx => ?_) (n - 1) 1 ((tS T i).2.2 0) (by omega) ?_ τ1 fr hsp
  · skip
    intro τ' fr hsp
    have hX := isX.frm hX0 fr (by omega)
    have hT := isT.frm hT0 fr (by omega)
    obtain ⟨t0, t1, ⟨fs, t2, t3⟩, ⟨fp, t4, t5⟩, t6, t7⟩ := id hT
    have hSi := t6 i (by omega)
    obtain ⟨h0, h1, h2, h3, h4, h5, h6', h7, h8, h9, h10⟩ := id hSi
    have hPj := t7 j (by omega)
    obtain ⟨p0, ⟨pf, p1, p2⟩, p3⟩ := id hPj
    obtain ⟨e0, e1, e2, e3, e4, e5, e6, e7, e8, e9, e10⟩ := id hsp
    refine Ev.iload rfl rfl ?_
    refine Ev.iload_n rfl rfl ?_
    refine Ev.jge (tgt := 81) rfl (by decide) (fun c56 => absurd (nI_lt hk (by omega)) c56) (fun c56 => ?_)
    refine Ev.aload_n rfl rfl ?_
    refine Ev.getf rfl rfl hX rfl ?_
    refine Ev.aload_n rfl rfl ?_
    refine Ev.getf rfl rfl hX rfl ?_
    refine Ev.aload rfl rfl ?_
    refine Ev.cV1 rfl rfl e0 rfl rfl (by decide) ⟨(Nat.le_refl _), (Nat.le_refl _)⟩ (rising_ok hsp hPj hwP hn16 hn5 (fun k hk => (hokL k hk))) ?_
    refine Ev.xV1u rfl rfl e0 rfl rfl (by decide) ⟨(Nat.le_refl _), (Nat.le_refl _)⟩ (rise_ok e0 e1 hn16 _) (fun τ2 f1 q1 => ?_)
    have hsp : isS τ2 (x + 84) (S_st (tS T i) (K_rise (tS T i).1 (K_rising (S_st (tS T i) z) (tP T j)) z)) := isS_st2 hsp f1 q1
    have fr := fr.step f1 (by omega) (by omega)
    have hX := isX.frm hX0 fr (by omega)
    have hT := isT.frm hT0 fr (by omega)
    obtain ⟨t0, t1, ⟨fs, t2, t3⟩, ⟨fp, t4, t5⟩, t6, t7⟩ := id hT
    have hSi := t6 i (by omega)
    obtain ⟨h0, h1, h2, h3, h4, h5, h6', h7, h8, h9, h10⟩ := id hSi
    have hPj := t7 j (by omega)
    obtain ⟨p0, ⟨pf, p1, p2⟩, p3⟩ := id hPj
    obtain ⟨e0, e1, e2, e3, e4, e5, e6, e7, e8, e9, e10⟩ := id hsp
    refine Ev.iinc (d := 1) rfl rfl rfl (by decide) rfl ?_
    refine Ev.goto (tgt := 53) rfl (by decide) ?_
    have hF : (F_ladder_53 T i j n) k z = (K_rise (tS T i).1 (K_rising (S_st (tS T i) z) (tP T j)) z) := by rfl
    rw [hF] at hx
    exact (hx τ2 fr hsp).fg (gs rfl (gn (gn (gs rfl (gs rfl (gn (gs (congrArg Value.int (show nI (k + 1) = (nI k) + (1 : Int32) from (nq_to (a := k + 1) (nq_add (a := k) (b := 1) rfl (rfl : (1 : Int32) = nI 1)) (by omega)).symm)) gz)))))))
  · skip
    intro τ' fr hsp
    have hX := isX.frm hX0 fr (by omega)
    have hT := isT.frm hT0 fr (by omega)
    obtain ⟨t0, t1, ⟨fs, t2, t3⟩, ⟨fp, t4, t5⟩, t6, t7⟩ := id hT
    have hSi := t6 i (by omega)
    obtain ⟨h0, h1, h2, h3, h4, h5, h6', h7, h8, h9, h10⟩ := id hSi
    have hPj := t7 j (by omega)
    obtain ⟨p0, ⟨pf, p1, p2⟩, p3⟩ := id hPj
    obtain ⟨e0, e1, e2, e3, e4, e5, e6, e7, e8, e9, e10⟩ := id hsp
    refine Ev.iload rfl rfl ?_
    refine Ev.iload_n rfl rfl ?_
    refine Ev.jge (tgt := 81) rfl (by decide) (fun c56 => ?_) (fun c56 => absurd c56 (nI_nlt (Nat.le_refl _) (by omega)))
    refine Ev.aload_n rfl rfl ?_
    refine Ev.getf rfl rfl hX rfl ?_
    refine Ev.aload rfl rfl ?_
    refine Ev.cV1 rfl rfl e0 rfl rfl (by decide) ⟨(Nat.le_refl _), (Nat.le_refl _)⟩ (inAll_ok hsp hPj h6 (fun k hk => (hokL k (by omega))) hn5) ?_
    refine Ev.iret (ty := .int) rfl rfl rfl (Nat.le_refl _) (Nat.le_refl _) ?_
    have hK : (K_ladder T i j n) = (K_inAll (S_st (tS T i) (fo (F_ladder_53 T i j n) (n - 1) 1 ((tS T i).2.2 0))) (tP T j), (fo (F_ladder_53 T i j n) (n - 1) 1 ((tS T i).2.2 0))) := by rfl
    rw [← hQ]
    dsimp only
    rw [hK]
    exact ⟨rfl, fr, hsp⟩
def K_more (T : Tol) (i j : Nat) (k0 : Nat) (st : Int32) : Int32 × (Nat → Int32) := ((K_tog (S_st (tS T i) (upd ((tS T i).2.2 0) ((tS T i).1) st)) ((tP T j).2 k0) ((((tP T j).2 k0) 5) ||| ((1 : Int32) <<< ((nI ((tS T i).1)) &&& 31)))) - (K_tog (tS T i) ((tP T j).2 k0) (((tP T j).2 k0) 5)), upd ((tS T i).2.2 0) ((tS T i).1) st)
theorem more_some (hX0 : isX σ x) (hT0 : isT σ (x + 1) T) (hw : wT T) {u v : Int32} {i j : Nat} (hg : gd T u v i j) {D0 : Sch} (hsp : isS σ (x + 84) D0) {k0 : Nat} (hkk : k0 < (tP T j).1) {st : Int32} (hst : rg st 0 11) : RetX Γ m_SD_more [(.ref x), .int u, .int v, (.int (nI k0)), (.int st)] σ (x + 84) (x + 95) (some (.int ((K_more T i j k0 st).1))) (fun τ => isS τ (x + 84) (S_st (tS T i) ((K_more T i j k0 st).2))) := by
  obtain ⟨rfl, hi, rfl, hj, hgo⟩ := hg
  have hw1 := hw.2.1
  have hw2 := hw.2.2.1
  have hwS := hw.2.2.2.1 i hi
  have hwP := hw.2.2.2.2 j hj
  have hn16 := hwS.1
  have hn5 := hwS.2.1
  have h6 := hwP.1
  have hokL : ∀ k, k < (tP T j).1 → okL (tS T i) ((tP T j).2 k) := fun k hk => goT_okL hwS (hgo k hk).1
  unfold RetX
  generalize hQ : (fun (r : Option Value) (τ : ex_S) => r = some (.int ((K_more T i j k0 st).1)) ∧ frm σ τ (x + 84) (x + 95) ∧ (fun τ : ex_S => isS τ (x + 84) (S_st (tS T i) ((K_more T i j k0 st).2))) τ) = Q
  refine Ret.start pm_30 rfl ?_
  have fr : frm σ σ (x + 84) (x + 95) := frm.rf
  have hX := isX.frm hX0 fr (by omega)
  have hT := isT.frm hT0 fr (by omega)
  obtain ⟨t0, t1, ⟨fs, t2, t3⟩, ⟨fp, t4, t5⟩, t6, t7⟩ := id hT
  have hSi := t6 i (by omega)
  obtain ⟨h0, h1, h2, h3, h4, h5, h6', h7, h8, h9, h10⟩ := id hSi
  have hPj := t7 j (by omega)
  obtain ⟨p0, ⟨pf, p1, p2⟩, p3⟩ := id hPj
  obtain ⟨e0, e1, e2, e3, e4, e5, e6, e7, e8, e9, e10⟩ := id hsp
  refine Ev.aload_n rfl rfl ?_
  refine Ev.iload_n rfl rfl ?_
  refine Ev.iload_n rfl rfl ?_
  refine Ev.cV2 rfl rfl hX rfl rfl (by decide) ⟨(Nat.le_refl _), (Nat.le_refl _)⟩ (going_some hX hT hw ⟨rfl, hi, rfl, hj, hgo⟩) ?_
  refine Ev.astore rfl rfl rfl ?_
  refine Ev.aload_n rfl rfl ?_
  refine Ev.getf rfl rfl hX rfl ?_
  refine Ev.iload_n rfl rfl ?_
  refine Ev.cV1 rfl rfl t0 rfl rfl (by decide) ⟨(Nat.le_refl _), (Nat.le_refl _)⟩ (schoolAt_some hT hw1 hi) ?_
  refine Ev.astore rfl rfl rfl ?_
  refine Ev.aload rfl rfl ?_
  refine Ev.iload_n rfl rfl ?_
  refine Ev.cS2 rfl rfl rfl (by decide) ⟨(Nat.le_refl _), (Nat.le_refl _)⟩ (lessonOf_some hPj h6 hkk) ?_
  refine Ev.astore rfl rfl rfl ?_
  refine Ev.aload rfl rfl ?_
  refine Ev.ifnull rfl ?_
  refine Ev.aload rfl rfl ?_
  refine Ev.ifnull rfl ?_
  refine Ev.iload rfl rfl ?_
  refine Ev.zlt (tgt := 48) rfl (by decide) (fun c38 => absurd c38 (rg_nlt hst)) (fun c38 => ?_)
  refine Ev.iload rfl rfl ?_
  refine Ev.bipush (v := 11) rfl (by decide) ?_
  refine Ev.jle (tgt := 51) rfl (by decide) (fun c45 => ?_) (fun c45 => absurd c45 (rg_ngt hst))
  refine Ev.aload_n rfl rfl ?_
  refine Ev.getf rfl rfl hX rfl ?_
  refine Ev.aload rfl rfl ?_
  refine Ev.xV1u rfl rfl e0 rfl rfl (by decide) ⟨(Nat.le_refl _), (Nat.le_refl _)⟩ (copyS_ok hsp hSi (by omega)) (fun τ1 f1 q1 => ?_)
  have hsp : isS τ1 (x + 84) (S_st (tS T i) ((tS T i).2.2 0)) := isS_cp q1
  have fr := fr.step f1 (by omega) (by omega)
  have hX := isX.frm hX0 fr (by omega)
  have hT := isT.frm hT0 fr (by omega)
  obtain ⟨t0, t1, ⟨fs, t2, t3⟩, ⟨fp, t4, t5⟩, t6, t7⟩ := id hT
  have hSi := t6 i (by omega)
  obtain ⟨h0, h1, h2, h3, h4, h5, h6', h7, h8, h9, h10⟩ := id hSi
  have hPj := t7 j (by omega)
  obtain ⟨p0, ⟨pf, p1, p2⟩, p3⟩ := id hPj
  obtain ⟨e0, e1, e2, e3, e4, e5, e6, e7, e8, e9, e10⟩ := id hsp
  refine Ev.aload rfl rfl ?_
  refine Ev.getf rfl rfl h0 rfl ?_
  refine Ev.istore rfl rfl rfl ?_
  refine Ev.aload_n rfl rfl ?_
  refine Ev.getf rfl rfl hX rfl ?_
  refine Ev.getf rfl rfl e0 rfl ?_
  refine Ev.iload rfl rfl ?_
  refine Ev.iload rfl rfl ?_
  refine Ev.iastE (k := (tS T i).1) rfl e1 rfl ⟨(by omega), by decide⟩ (fun τ2 f1 q1 => ?_)
  have hsp := isS_st2 hsp f1 q1
  have fr := fr.step f1 (by omega) (by omega)
  have hX := isX.frm hX0 fr (by omega)
  have hT := isT.frm hT0 fr (by omega)
  obtain ⟨t0, t1, ⟨fs, t2, t3⟩, ⟨fp, t4, t5⟩, t6, t7⟩ := id hT
  have hSi := t6 i (by omega)
  obtain ⟨h0, h1, h2, h3, h4, h5, h6', h7, h8, h9, h10⟩ := id hSi
  have hPj := t7 j (by omega)
  obtain ⟨p0, ⟨pf, p1, p2⟩, p3⟩ := id hPj
  obtain ⟨e0, e1, e2, e3, e4, e5, e6, e7, e8, e9, e10⟩ := id hsp
  refine Ev.aload_n rfl rfl ?_
  refine Ev.getf rfl rfl hX rfl ?_
  refine Ev.aload rfl rfl ?_
  refine Ev.aload rfl rfl ?_
  refine Ev.getf rfl rfl (p3 k0 (by omega)) rfl ?_
  refine Ev.iconst (v := 1) rfl (by decide) ?_
  refine Ev.iload rfl rfl ?_
  refine Ev.ishl rfl ?_
  refine Ev.ior rfl ?_
  refine Ev.cV2 rfl rfl e0 rfl rfl (by decide) ⟨(Nat.le_refl _), (Nat.le_refl _)⟩ (tog_ok hsp (p3 k0 (by omega)) _ (hokL k0 hkk) hn5) ?_
  refine Ev.aload rfl rfl ?_
  refine Ev.aload rfl rfl ?_
  refine Ev.aload rfl rfl ?_
  refine Ev.getf rfl rfl (p3 k0 (by omega)) rfl ?_
  refine Ev.cV2 rfl rfl h0 rfl rfl (by decide) ⟨(Nat.le_refl _), (Nat.le_refl _)⟩ (tog_ok hSi (p3 k0 (by omega)) _ (hokL k0 hkk) hn5) ?_
  refine Ev.isub rfl ?_
  refine Ev.iret (ty := .int) rfl rfl rfl (Nat.le_refl _) (Nat.le_refl _) ?_
  have hK : (K_more T i j k0 st) = ((K_tog (S_st (tS T i) (upd ((tS T i).2.2 0) ((tS T i).1) st)) ((tP T j).2 k0) ((((tP T j).2 k0) 5) ||| ((1 : Int32) <<< ((nI ((tS T i).1)) &&& 31)))) - (K_tog (tS T i) ((tP T j).2 k0) (((tP T j).2 k0) 5)), upd ((tS T i).2.2 0) ((tS T i).1) st) := by rfl
  rw [← hQ]
  dsimp only
  rw [hK]
  exact ⟨rfl, fr, hsp⟩
def F_settle_8 (S : Sch) (C : Les) (w : Int32) : Nat → (Int32 × Int32 × Int32) → (Int32 × Int32 × Int32) := fun k z => if z.1 < (K_tog S (L_set C 3 (nI k)) w) then (K_tog S (L_set C 3 (nI k)) w, nI k, nI k) else (z.1, z.2.1, nI k)
def K_settle (S : Sch) (C : Les) (w : Int32) : Int32 × Int32 := ((fo (F_settle_8 S C w) (12) 0 ((-1 : Int32), (0 : Int32), (C 3))).1, (fo (F_settle_8 S C w) (12) 0 ((-1 : Int32), (0 : Int32), (C 3))).2.1)
theorem settle_ok {c : Nat} {C : Les} (hS0 : isS σ a S) (htr0 : isL σ c C) (hok : okL S C) (hn5 : S.2.1 ≤ 5) (hac : a + 11 ≤ c ∨ c + 1 ≤ a) (w : Int32) : RetX Γ m_School_settle [(.ref a), (.ref c), (.int w)] σ c (c + 1) (some (.int ((K_settle S C w).1))) (fun τ => isL τ c (L_set C 3 ((K_settle S C w).2))) := by
  have htr : isL σ c (L_set C 3 (C 3)) := htr0
  unfold RetX
  generalize hQ : (fun (r : Option Value) (τ : ex_S) => r = some (.int ((K_settle S C w).1)) ∧ frm σ τ c (c + 1) ∧ (fun τ : ex_S => isL τ c (L_set C 3 ((K_settle S C w).2))) τ) = Q
  refine Ret.start pm_92 rfl ?_
  have fr : frm σ σ c (c + 1) := frm.rf
  have hS := hS0.frm fr (by omega)
  obtain ⟨h0, h1, h2, h3, h4, h5, h6', h7, h8, h9, h10⟩ := id hS
  refine Ev.iconst (v := (-1)) rfl (by decide) ?_
  refine Ev.istore_n rfl rfl rfl ?_
  refine Ev.iconst (v := 0) rfl (by decide) ?_
  refine Ev.istore rfl rfl rfl ?_
  refine Ev.iconst (v := 0) rfl (by decide) ?_
  refine Ev.istore rfl rfl rfl ?_
  refine Ev.fg (L := [some (.ref a), some (.ref c), some (.int w), some (.int (-1 : Int32)), some (.int (0 : Int32)), some (.int (nI 0)), none]) ?_ (gs rfl (gs rfl (gs rfl (gs rfl (gs rfl (gs (congrArg Value.int (rfl : (0 : Int32) = nI 0).symm) (gn gz)))))))
  refine lp (fun (k : Nat) (z : Int32 × Int32 × Int32) => ∀ τ' : ex_S, frm σ τ' c (c + 1) → isL τ' c (L_set C 3 z.2.2) → Ev Γ 0 0 m_School_settle 0 0 8 [some (.ref a), some (.ref c), some (.int w), some (.int z.1), some (.int z.2.1), some (.int (nI k)), none] [] τ' Q) (F_settle_8 S C w) (12) (fun k z hk hx => ?_) (12) 0 ((-1 : Int32), (0 : Int32), (C 3)) (by omega) ?_ σ fr htr
  · skip
    intro τ' fr htr
    have hS := hS0.frm fr (by omega)
    obtain ⟨h0, h1, h2, h3, h4, h5, h6', h7, h8, h9, h10⟩ := id hS
    refine Ev.iload rfl rfl ?_
    refine Ev.bipush (v := 12) rfl (by decide) ?_
    refine Ev.jge (tgt := 48) rfl (by decide) (fun c12 => absurd (nI_lt hk (by omega)) c12) (fun c12 => ?_)
    refine Ev.aload_n rfl rfl ?_
    refine Ev.iload rfl rfl ?_
    refine Ev.putE rfl rfl htr rfl rfl rfl (Nat.le_of_ble_eq_true rfl) (fun τ1 f1 q1 => ?_)
    have htr : isL τ1 c (L_set C 3 (nI k)) := q1
    have fr := fr.step f1 (by omega) (by omega)
    have hS := hS0.frm fr (by omega)
    obtain ⟨h0, h1, h2, h3, h4, h5, h6', h7, h8, h9, h10⟩ := id hS
    refine Ev.aload_n rfl rfl ?_
    refine Ev.aload_n rfl rfl ?_
    refine Ev.iload_n rfl rfl ?_
    refine Ev.cV2 rfl rfl h0 rfl rfl (by decide) ⟨(Nat.le_refl _), (Nat.le_refl _)⟩ (tog_ok hS htr _ hok hn5) ?_
    refine Ev.istore rfl rfl rfl ?_
    refine Ev.iload rfl rfl ?_
    refine Ev.iload_n rfl rfl ?_
    refine Ev.jle (tgt := 42) rfl (by decide) (fun c32 => ?_) (fun c32 => ?_)
    · skip
      refine Ev.iinc (d := 1) rfl rfl rfl (by decide) rfl ?_
      refine Ev.goto (tgt := 8) rfl (by decide) ?_
      have hF : (F_settle_8 S C w) k z = (z.1, z.2.1, nI k) := by
        unfold F_settle_8
        rw [if_neg c32]
      rw [hF] at hx
      exact (hx τ1 fr htr).fg (gs rfl (gs rfl (gs rfl (gs rfl (gs rfl (gs (congrArg Value.int (show nI (k + 1) = (nI k) + (1 : Int32) from (nq_to (a := k + 1) (nq_add (a := k) (b := 1) rfl (rfl : (1 : Int32) = nI 1)) (by omega)).symm)) (gn gz)))))))
    · skip
      refine Ev.iload rfl rfl ?_
      refine Ev.istore_n rfl rfl rfl ?_
      refine Ev.iload rfl rfl ?_
      refine Ev.istore rfl rfl rfl ?_
      refine Ev.iinc (d := 1) rfl rfl rfl (by decide) rfl ?_
      refine Ev.goto (tgt := 8) rfl (by decide) ?_
      have hF : (F_settle_8 S C w) k z = (K_tog S (L_set C 3 (nI k)) w, nI k, nI k) := by
        unfold F_settle_8
        rw [if_pos c32]
      rw [hF] at hx
      exact (hx τ1 fr htr).fg (gs rfl (gs rfl (gs rfl (gs rfl (gs rfl (gs (congrArg Value.int (show nI (k + 1) = (nI k) + (1 : Int32) from (nq_to (a := k + 1) (nq_add (a := k) (b := 1) rfl (rfl : (1 : Int32) = nI 1)) (by omega)).symm)) (gn gz)))))))
  · skip
    intro τ' fr htr
    have hS := hS0.frm fr (by omega)
    obtain ⟨h0, h1, h2, h3, h4, h5, h6', h7, h8, h9, h10⟩ := id hS
    refine Ev.iload rfl rfl ?_
    refine Ev.bipush (v := 12) rfl (by decide) ?_
    refine Ev.jge (tgt := 48) rfl (by decide) (fun c12 => ?_) (fun c12 => absurd c12 (nI_nlt (Nat.le_refl _) (by omega)))
    refine Ev.aload_n rfl rfl ?_
    refine Ev.iload rfl rfl ?_
    refine Ev.putE rfl rfl htr rfl rfl rfl (Nat.le_of_ble_eq_true rfl) (fun τ2 f1 q1 => ?_)
    have htr : isL τ2 c (L_set C 3 ((fo (F_settle_8 S C w) (12) 0 ((-1 : Int32), (0 : Int32), (C 3))).2.1)) := q1
    have fr := fr.step f1 (by omega) (by omega)
    have hS := hS0.frm fr (by omega)
    obtain ⟨h0, h1, h2, h3, h4, h5, h6', h7, h8, h9, h10⟩ := id hS
    refine Ev.iload_n rfl rfl ?_
    refine Ev.iret (ty := .int) rfl rfl rfl (Nat.le_refl _) (Nat.le_refl _) ?_
    have hK : (K_settle S C w) = ((fo (F_settle_8 S C w) (12) 0 ((-1 : Int32), (0 : Int32), (C 3))).1, (fo (F_settle_8 S C w) (12) 0 ((-1 : Int32), (0 : Int32), (C 3))).2.1) := by rfl
    rw [← hQ]
    dsimp only
    rw [hK]
    exact ⟨rfl, fr, htr⟩
def K_shift (T : Tol) (i j : Nat) (k0 : Nat) : Int32 × Les := ((L_set ((tP T j).2 k0) 3 (K_settle (tS T i) ((tP T j).2 k0) (((tP T j).2 k0) 5)).2) 3, L_set ((tP T j).2 k0) 3 (K_settle (tS T i) ((tP T j).2 k0) (((tP T j).2 k0) 5)).2)
theorem shift_some (hX0 : isX σ x) (hT0 : isT σ (x + 1) T) (hw : wT T) {u v : Int32} {i j : Nat} (hg : gd T u v i j) {D0 : Les} (htr : isL σ (x + 95) D0) {k0 : Nat} (hkk : k0 < (tP T j).1) : RetX Γ m_SD_shift [(.ref x), .int u, .int v, (.int (nI k0))] σ (x + 95) (x + 96) (some (.int ((K_shift T i j k0).1))) (fun τ => isL τ (x + 95) ((K_shift T i j k0).2)) := by
  obtain ⟨rfl, hi, rfl, hj, hgo⟩ := hg
  have hw1 := hw.2.1
  have hw2 := hw.2.2.1
  have hwS := hw.2.2.2.1 i hi
  have hwP := hw.2.2.2.2 j hj
  have hn16 := hwS.1
  have hn5 := hwS.2.1
  have h6 := hwP.1
  have hokL : ∀ k, k < (tP T j).1 → okL (tS T i) ((tP T j).2 k) := fun k hk => goT_okL hwS (hgo k hk).1
  unfold RetX
  generalize hQ : (fun (r : Option Value) (τ : ex_S) => r = some (.int ((K_shift T i j k0).1)) ∧ frm σ τ (x + 95) (x + 96) ∧ (fun τ : ex_S => isL τ (x + 95) ((K_shift T i j k0).2)) τ) = Q
  refine Ret.start pm_32 rfl ?_
  have fr : frm σ σ (x + 95) (x + 96) := frm.rf
  have hX := isX.frm hX0 fr (by omega)
  have hT := isT.frm hT0 fr (by omega)
  obtain ⟨t0, t1, ⟨fs, t2, t3⟩, ⟨fp, t4, t5⟩, t6, t7⟩ := id hT
  have hSi := t6 i (by omega)
  obtain ⟨h0, h1, h2, h3, h4, h5, h6', h7, h8, h9, h10⟩ := id hSi
  have hPj := t7 j (by omega)
  obtain ⟨p0, ⟨pf, p1, p2⟩, p3⟩ := id hPj
  refine Ev.aload_n rfl rfl ?_
  refine Ev.iload_n rfl rfl ?_
  refine Ev.iload_n rfl rfl ?_
  refine Ev.cV2 rfl rfl hX rfl rfl (by decide) ⟨(Nat.le_refl _), (Nat.le_refl _)⟩ (going_some hX hT hw ⟨rfl, hi, rfl, hj, hgo⟩) ?_
  refine Ev.astore rfl rfl rfl ?_
  refine Ev.aload_n rfl rfl ?_
  refine Ev.getf rfl rfl hX rfl ?_
  refine Ev.iload_n rfl rfl ?_
  refine Ev.cV1 rfl rfl t0 rfl rfl (by decide) ⟨(Nat.le_refl _), (Nat.le_refl _)⟩ (schoolAt_some hT hw1 hi) ?_
  refine Ev.astore rfl rfl rfl ?_
  refine Ev.aload rfl rfl ?_
  refine Ev.iload_n rfl rfl ?_
  refine Ev.cS2 rfl rfl rfl (by decide) ⟨(Nat.le_refl _), (Nat.le_refl _)⟩ (lessonOf_some hPj h6 hkk) ?_
  refine Ev.astore rfl rfl rfl ?_
  refine Ev.aload rfl rfl ?_
  refine Ev.ifnull rfl ?_
  refine Ev.aload rfl rfl ?_
  refine Ev.ifnonnull (tgt := 38) rfl (by decide) ?_
  refine Ev.aload_n rfl rfl ?_
  refine Ev.getf rfl rfl hX rfl ?_
  refine Ev.aload rfl rfl ?_
  refine Ev.xV1u rfl rfl htr rfl rfl (by decide) ⟨(Nat.le_refl _), (Nat.le_refl _)⟩ (copyL_ok htr (p3 k0 (by omega)) (by omega)) (fun τ1 f1 q1 => ?_)
  have htr := q1
  have fr := fr.step f1 (by omega) (by omega)
  have hX := isX.frm hX0 fr (by omega)
  have hT := isT.frm hT0 fr (by omega)
  obtain ⟨t0, t1, ⟨fs, t2, t3⟩, ⟨fp, t4, t5⟩, t6, t7⟩ := id hT
  have hSi := t6 i (by omega)
  obtain ⟨h0, h1, h2, h3, h4, h5, h6', h7, h8, h9, h10⟩ := id hSi
  have hPj := t7 j (by omega)
  obtain ⟨p0, ⟨pf, p1, p2⟩, p3⟩ := id hPj
  refine Ev.aload rfl rfl ?_
  refine Ev.aload_n rfl rfl ?_
  refine Ev.getf rfl rfl hX rfl ?_
  refine Ev.aload_n rfl rfl ?_
  refine Ev.getf rfl rfl hX rfl ?_
  refine Ev.getf rfl rfl htr rfl ?_
  refine Ev.xV2 rfl rfl h0 rfl rfl (by decide) ⟨(Nat.le_refl _), (Nat.le_refl _)⟩ (settle_ok hSi htr (hokL k0 hkk) hn5 (by omega) _) (fun τ2 f1 q1 => ?_)
  have htr := q1
  have fr := fr.step f1 (by omega) (by omega)
  have hX := isX.frm hX0 fr (by omega)
  have hT := isT.frm hT0 fr (by omega)
  obtain ⟨t0, t1, ⟨fs, t2, t3⟩, ⟨fp, t4, t5⟩, t6, t7⟩ := id hT
  have hSi := t6 i (by omega)
  obtain ⟨h0, h1, h2, h3, h4, h5, h6', h7, h8, h9, h10⟩ := id hSi
  have hPj := t7 j (by omega)
  obtain ⟨p0, ⟨pf, p1, p2⟩, p3⟩ := id hPj
  refine Ev.pop rfl rfl ?_
  refine Ev.aload_n rfl rfl ?_
  refine Ev.getf rfl rfl hX rfl ?_
  refine Ev.getf rfl rfl htr rfl ?_
  refine Ev.iret (ty := .int) rfl rfl rfl (Nat.le_refl _) (Nat.le_refl _) ?_
  have hK : (K_shift T i j k0) = ((L_set ((tP T j).2 k0) 3 (K_settle (tS T i) ((tP T j).2 k0) (((tP T j).2 k0) 5)).2) 3, L_set ((tP T j).2 k0) 3 (K_settle (tS T i) ((tP T j).2 k0) (((tP T j).2 k0) 5)).2) := by rfl
  rw [← hQ]
  dsimp only
  rw [hK]
  exact ⟨rfl, fr, htr⟩
def K_pass (T : Tol) (i j : Nat) : Int32 := K_rising (tS T i) (tP T j)
theorem pass_some (hX : isX σ x) (hT : isT σ (x + 1) T) (hw : wT T) {u v : Int32} {i j : Nat} (hg : gd T u v i j)  : RetV Γ m_SD_pass [(.ref x), .int u, .int v] σ (.int (K_pass T i j)) := by
  unfold isX at hX
  obtain ⟨t0, t1, ⟨fs, t2, t3⟩, ⟨fp, t4, t5⟩, t6, t7⟩ := id hT
  obtain ⟨rfl, hi, rfl, hj, hgo⟩ := hg
  have hw1 := hw.2.1
  have hw2 := hw.2.2.1
  have hwS := hw.2.2.2.1 i hi
  have hwP := hw.2.2.2.2 j hj
  have hn16 := hwS.1
  have hn5 := hwS.2.1
  have h6 := hwP.1
  have hSi := t6 i (by omega)
  have hPj := t7 j (by omega)
  have hokL : ∀ k, k < (tP T j).1 → okL (tS T i) ((tP T j).2 k) := fun k hk => goT_okL hwS (hgo k hk).1
  obtain ⟨h0, h1, h2, h3, h4, h5, h6', h7, h8, h9, h10⟩ := id hSi
  obtain ⟨p0, ⟨pf, p1, p2⟩, p3⟩ := id hPj
  unfold RetV
  generalize hQ : (fun (r : Option Value) (σ' : ex_S) => r = some ((.int (K_pass T i j)) : Value) ∧ σ' = σ) = Q
  refine Ret.start pm_43 rfl ?_
  refine Ev.aload_n rfl rfl ?_
  refine Ev.iload_n rfl rfl ?_
  refine Ev.iload_n rfl rfl ?_
  refine Ev.cV2 rfl rfl hX rfl rfl (by decide) ⟨(Nat.le_refl _), (Nat.le_refl _)⟩ (going_some hX hT hw ⟨rfl, hi, rfl, hj, hgo⟩) ?_
  refine Ev.astore_n rfl rfl rfl ?_
  refine Ev.aload_n rfl rfl ?_
  refine Ev.getf rfl rfl hX rfl ?_
  refine Ev.iload_n rfl rfl ?_
  refine Ev.cV1 rfl rfl t0 rfl rfl (by decide) ⟨(Nat.le_refl _), (Nat.le_refl _)⟩ (schoolAt_some hT hw1 hi) ?_
  refine Ev.astore rfl rfl rfl ?_
  refine Ev.aload_n rfl rfl ?_
  refine Ev.ifnull rfl ?_
  refine Ev.aload rfl rfl ?_
  refine Ev.ifnonnull (tgt := 30) rfl (by decide) ?_
  refine Ev.aload rfl rfl ?_
  refine Ev.aload_n rfl rfl ?_
  refine Ev.cV1 rfl rfl h0 rfl rfl (by decide) ⟨(Nat.le_refl _), (Nat.le_refl _)⟩ (rising_ok hSi hPj hwP hn16 hn5 (fun k hk => (hokL k hk))) ?_
  refine Ev.iret (ty := .int) rfl rfl rfl (Nat.le_refl _) (Nat.le_refl _) ?_
  rw [← hQ]
  refine ⟨congrArg (fun v => some (Value.int v)) (Eq.symm ?_), rfl⟩
  rfl
def F_june_110 (T : Tol) (i j : Nat) (k0 l n : Nat) : Nat → Int32 → Int32 := fun k z => if (((K_fitting (tS T i) ((tP T j).2 k0) z (K_steps (tS T i) ((((tP T j).2 k0) 5) &&& (((1 : Int32) <<< ((nI l) &&& 31)) ^^^ (-1 : Int32))))) * (K_part (tS T i) ((K_bc ((((tP T j).2 k0) 5) &&& (((1 : Int32) <<< ((nI l) &&& 31)) ^^^ (-1 : Int32)))) + (1 : Int32)))) / (100 : Int32)) < (((tS T i).2.2 9) 8) then z else (if (11 : Int32) < (z + (1 : Int32)) then (11 : Int32) else z + (1 : Int32))
def K_june (T : Tol) (i j : Nat) (k0 l n : Nat) : Int32 := (fo (F_june_110 T i j k0 l n) (n) 0 (((tS T i).2.2 0) l))
theorem june_some (hX : isX σ x) (hT : isT σ (x + 1) T) (hw : wT T) {u v : Int32} {i j : Nat} (hg : gd T u v i j) {k0 l n : Nat} (hkk : k0 < (tP T j).1) (hl : l < (tS T i).1) (hn2 : n ≤ 12) : RetV Γ m_SD_june [(.ref x), .int u, .int v, (.int (nI k0)), (.int (nI l)), (.int (nI n))] σ (.int (K_june T i j k0 l n)) := by
  unfold isX at hX
  obtain ⟨t0, t1, ⟨fs, t2, t3⟩, ⟨fp, t4, t5⟩, t6, t7⟩ := id hT
  obtain ⟨rfl, hi, rfl, hj, hgo⟩ := hg
  have hw1 := hw.2.1
  have hw2 := hw.2.2.1
  have hwS := hw.2.2.2.1 i hi
  have hwP := hw.2.2.2.2 j hj
  have hn16 := hwS.1
  have hn5 := hwS.2.1
  have h6 := hwP.1
  have hSi := t6 i (by omega)
  have hPj := t7 j (by omega)
  have hokL : ∀ k, k < (tP T j).1 → okL (tS T i) ((tP T j).2 k) := fun k hk => goT_okL hwS (hgo k hk).1
  obtain ⟨h0, h1, h2, h3, h4, h5, h6', h7, h8, h9, h10⟩ := id hSi
  obtain ⟨p0, ⟨pf, p1, p2⟩, p3⟩ := id hPj
  unfold RetV
  generalize hQ : (fun (r : Option Value) (σ' : ex_S) => r = some ((.int (K_june T i j k0 l n)) : Value) ∧ σ' = σ) = Q
  refine Ret.start pm_35 rfl ?_
  refine Ev.aload_n rfl rfl ?_
  refine Ev.iload_n rfl rfl ?_
  refine Ev.iload_n rfl rfl ?_
  refine Ev.cV2 rfl rfl hX rfl rfl (by decide) ⟨(Nat.le_refl _), (Nat.le_refl _)⟩ (going_some hX hT hw ⟨rfl, hi, rfl, hj, hgo⟩) ?_
  refine Ev.astore rfl rfl rfl ?_
  refine Ev.aload_n rfl rfl ?_
  refine Ev.getf rfl rfl hX rfl ?_
  refine Ev.iload_n rfl rfl ?_
  refine Ev.cV1 rfl rfl t0 rfl rfl (by decide) ⟨(Nat.le_refl _), (Nat.le_refl _)⟩ (schoolAt_some hT hw1 hi) ?_
  refine Ev.astore rfl rfl rfl ?_
  refine Ev.aload rfl rfl ?_
  refine Ev.iload_n rfl rfl ?_
  refine Ev.cS2 rfl rfl rfl (by decide) ⟨(Nat.le_refl _), (Nat.le_refl _)⟩ (lessonOf_some hPj h6 hkk) ?_
  refine Ev.astore rfl rfl rfl ?_
  refine Ev.aload rfl rfl ?_
  refine Ev.ifnull rfl ?_
  refine Ev.aload rfl rfl ?_
  refine Ev.ifnull rfl ?_
  refine Ev.aload rfl rfl ?_
  refine Ev.iload rfl rfl ?_
  refine Ev.cV1 rfl rfl h0 rfl rfl (by decide) ⟨(Nat.le_refl _), (Nat.le_refl _)⟩ (has_y hSi hn16 hl) ?_
  refine Ev.zeq (tgt := 58) rfl (by decide) (fun c43 => absurd c43 (by decide)) (fun c43 => ?_)
  refine Ev.iload rfl rfl ?_
  refine Ev.zlt (tgt := 58) rfl (by decide) (fun c48 => absurd c48 (nI_pos (by omega))) (fun c48 => ?_)
  refine Ev.iload rfl rfl ?_
  refine Ev.bipush (v := 12) rfl (by decide) ?_
  refine Ev.jle (tgt := 60) rfl (by decide) (fun c55 => ?_) (fun c55 => absurd c55 (nI_nlt (a := 12) hn2 (by omega)))
  refine Ev.aload rfl rfl ?_
  refine Ev.getf rfl rfl (p3 k0 (by omega)) rfl ?_
  refine Ev.iconst (v := 1) rfl (by decide) ?_
  refine Ev.iload rfl rfl ?_
  refine Ev.ishl rfl ?_
  refine Ev.iconst (v := (-1)) rfl (by decide) ?_
  refine Ev.ixor rfl ?_
  refine Ev.iand rfl ?_
  refine Ev.istore rfl rfl rfl ?_
  refine Ev.aload rfl rfl ?_
  refine Ev.iload rfl rfl ?_
  refine Ev.cV1 rfl rfl h0 rfl rfl (by decide) ⟨(Nat.le_refl _), (Nat.le_refl _)⟩ (steps_ok hSi _) ?_
  refine Ev.istore rfl rfl rfl ?_
  refine Ev.aload rfl rfl ?_
  refine Ev.iload rfl rfl ?_
  refine Ev.cS1 rfl rfl rfl (by decide) ⟨(Nat.le_refl _), (Nat.le_refl _)⟩ (bc_ok _) ?_
  refine Ev.iconst (v := 1) rfl (by decide) ?_
  refine Ev.iadd rfl ?_
  refine Ev.cV1 rfl rfl h0 rfl rfl (by decide) ⟨(Nat.le_refl _), (Nat.le_refl _)⟩ (part_ok hSi _) ?_
  refine Ev.istore rfl rfl rfl ?_
  refine Ev.aload rfl rfl ?_
  refine Ev.getf rfl rfl h0 rfl ?_
  refine Ev.iload rfl rfl ?_
  refine Ev.ialdN (k := l) rfl h1 rfl ⟨(by omega), by decide⟩ ?_
  refine Ev.istore rfl rfl rfl ?_
  refine Ev.iconst (v := 0) rfl (by decide) ?_
  refine Ev.istore rfl rfl rfl ?_
  refine Ev.fg (L := [none, none, none, none, none, some (.int (nI n)), none, some (.ref (x + 1 + 4 + 19 * i)), some (.ref (x + 1 + 15 + 19 * j + 2 + k0)), none, some (.int (K_steps (tS T i) ((((tP T j).2 k0) 5) &&& (((1 : Int32) <<< ((nI l) &&& 31)) ^^^ (-1 : Int32))))), some (.int (K_part (tS T i) ((K_bc ((((tP T j).2 k0) 5) &&& (((1 : Int32) <<< ((nI l) &&& 31)) ^^^ (-1 : Int32)))) + (1 : Int32)))), some (.int (((tS T i).2.2 0) l)), some (.int (nI 0))]) ?_ (gn (gn (gn (gn (gn (gs rfl (gn (gs rfl (gs rfl (gn (gs rfl (gs rfl (gs rfl (gs (congrArg Value.int (rfl : (0 : Int32) = nI 0).symm) gz))))))))))))))
  refine lp (fun (k : Nat) (z : Int32) => Ev Γ 0 0 m_SD_june 0 0 110 [none, none, none, none, none, some (.int (nI n)), none, some (.ref (x + 1 + 4 + 19 * i)), some (.ref (x + 1 + 15 + 19 * j + 2 + k0)), none, some (.int (K_steps (tS T i) ((((tP T j).2 k0) 5) &&& (((1 : Int32) <<< ((nI l) &&& 31)) ^^^ (-1 : Int32))))), some (.int (K_part (tS T i) ((K_bc ((((tP T j).2 k0) 5) &&& (((1 : Int32) <<< ((nI l) &&& 31)) ^^^ (-1 : Int32)))) + (1 : Int32)))), some (.int z), some (.int (nI k))] [] σ Q) (F_june_110 T i j k0 l n) (n) (fun k z hk hx => ?_) (n) 0 (((tS T i).2.2 0) l) (by omega) ?_
  · skip
    refine Ev.iload rfl rfl ?_
    refine Ev.iload rfl rfl ?_
    refine Ev.jge (tgt := 162) rfl (by decide) (fun c114 => absurd (nI_lt hk (by omega)) c114) (fun c114 => ?_)
    refine Ev.aload rfl rfl ?_
    refine Ev.aload rfl rfl ?_
    refine Ev.iload rfl rfl ?_
    refine Ev.iload rfl rfl ?_
    refine Ev.cV3 rfl rfl h0 rfl rfl (by decide) ⟨(Nat.le_refl _), (Nat.le_refl _)⟩ (fitting_ok hSi (p3 k0 (by omega)) _ _ (hokL k0 hkk) hn5) ?_
    refine Ev.iload rfl rfl ?_
    refine Ev.imul rfl ?_
    refine Ev.bipush (v := 100) rfl (by decide) ?_
    refine Ev.idiv rfl (by decide) ?_
    refine Ev.aload rfl rfl ?_
    refine Ev.getf rfl rfl h0 rfl ?_
    refine Ev.bipush (v := 8) rfl (by decide) ?_
    refine Ev.ialdN (k := 8) rfl h10 (rfl : (8 : Int32) = nI 8) ⟨(by omega), by decide⟩ ?_
    refine Ev.jlt (tgt := 156) rfl (by decide) (fun c142 => ?_) (fun c142 => ?_)
    · skip
      refine Ev.iinc (d := 1) rfl rfl rfl (by decide) rfl ?_
      refine Ev.goto (tgt := 110) rfl (by decide) ?_
      have hF : (F_june_110 T i j k0 l n) k z = z := by
        unfold F_june_110
        rw [if_pos c142]
      rw [hF] at hx
      exact hx.fg (gn (gn (gn (gn (gn (gs rfl (gn (gs rfl (gs rfl (gn (gs rfl (gs rfl (gs rfl (gs (congrArg Value.int (show nI (k + 1) = (nI k) + (1 : Int32) from (nq_to (a := k + 1) (nq_add (a := k) (b := 1) rfl (rfl : (1 : Int32) = nI 1)) (by omega)).symm)) gz))))))))))))))
    · skip
      refine Ev.iload rfl rfl ?_
      refine Ev.iconst (v := 1) rfl (by decide) ?_
      refine Ev.iadd rfl ?_
      refine Ev.bipush (v := 11) rfl (by decide) ?_
      refine Ev.mmin rfl rfl rfl (Nat.le_of_ble_eq_true rfl) ⟨(Nat.le_refl _), (Nat.le_refl _)⟩ ?_
      refine Ev.istore rfl rfl rfl ?_
      refine Ev.iinc (d := 1) rfl rfl rfl (by decide) rfl ?_
      refine Ev.goto (tgt := 110) rfl (by decide) ?_
      have hF : (F_june_110 T i j k0 l n) k z = if (11 : Int32) < (z + (1 : Int32)) then (11 : Int32) else z + (1 : Int32) := by
        unfold F_june_110
        rw [if_neg c142]
      rw [hF] at hx
      exact hx.fg (gn (gn (gn (gn (gn (gs rfl (gn (gs rfl (gs rfl (gn (gs rfl (gs rfl (gs rfl (gs (congrArg Value.int (show nI (k + 1) = (nI k) + (1 : Int32) from (nq_to (a := k + 1) (nq_add (a := k) (b := 1) rfl (rfl : (1 : Int32) = nI 1)) (by omega)).symm)) gz))))))))))))))
  · skip
    refine Ev.iload rfl rfl ?_
    refine Ev.iload rfl rfl ?_
    refine Ev.jge (tgt := 162) rfl (by decide) (fun c114 => ?_) (fun c114 => absurd c114 (nI_nlt (Nat.le_refl _) (by omega)))
    refine Ev.iload rfl rfl ?_
    refine Ev.iret (ty := .int) rfl rfl rfl (Nat.le_refl _) (Nat.le_refl _) ?_
    rw [← hQ]
    refine ⟨congrArg (fun v => some (Value.int v)) (Eq.symm ?_), rfl⟩
    rfl
def K_fills (T : Tol) (i : Nat) (b : Int32) : Int32 := if (nI ((tS T i).1)) = (0 : Int32) then (-1 : Int32) else (if b = (0 : Int32) then (K_least (tS T i)) else (K_paying (tS T i)))
theorem fills_some (hX : isX σ x) (hT : isT σ (x + 1) T) (hw : wT T) {u : Int32} {i : Nat} (hg : u = nI i ∧ i < tSn T) {b : Int32} : RetV Γ m_SD_fills [(.ref x), .int u, (.int b)] σ (.int (K_fills T i b)) := by
  unfold isX at hX
  obtain ⟨t0, t1, ⟨fs, t2, t3⟩, ⟨fp, t4, t5⟩, t6, t7⟩ := id hT
  obtain ⟨rfl, hi⟩ := hg
  have hw1 := hw.2.1
  have hwS := hw.2.2.2.1 i hi
  have hn16 := hwS.1
  have hn5 := hwS.2.1
  have hSi := t6 i (by omega)
  obtain ⟨h0, h1, h2, h3, h4, h5, h6', h7, h8, h9, h10⟩ := id hSi
  unfold RetV
  generalize hQ : (fun (r : Option Value) (σ' : ex_S) => r = some ((.int (K_fills T i b)) : Value) ∧ σ' = σ) = Q
  refine Ret.start pm_23 rfl ?_
  refine Ev.aload_n rfl rfl ?_
  refine Ev.getf rfl rfl hX rfl ?_
  refine Ev.iload_n rfl rfl ?_
  refine Ev.cV1 rfl rfl t0 rfl rfl (by decide) ⟨(Nat.le_refl _), (Nat.le_refl _)⟩ (schoolAt_some hT hw1 hi) ?_
  refine Ev.astore_n rfl rfl rfl ?_
  refine Ev.aload_n rfl rfl ?_
  refine Ev.ifnull rfl ?_
  refine Ev.aload_n rfl rfl ?_
  refine Ev.getf rfl rfl h0 rfl ?_
  refine Ev.zne (tgt := 22) rfl (by decide) (fun c17 => ?_) (fun c17 => ?_)
  · skip
    refine Ev.iload_n rfl rfl ?_
    refine Ev.zeq (tgt := 33) rfl (by decide) (fun c23 => ?_) (fun c23 => ?_)
    · skip
      refine Ev.aload_n rfl rfl ?_
      refine Ev.cV0 rfl rfl h0 rfl rfl (by decide) ⟨(Nat.le_refl _), (Nat.le_refl _)⟩ (least_ok hSi hn16) ?_
      refine Ev.iret (ty := .int) rfl rfl rfl (Nat.le_refl _) (Nat.le_refl _) ?_
      rw [← hQ]
      refine ⟨congrArg (fun v => some (Value.int v)) (Eq.symm ?_), rfl⟩
      unfold K_fills
      rw [if_neg c17]
      rw [if_pos c23]
    · skip
      refine Ev.aload_n rfl rfl ?_
      refine Ev.cV0 rfl rfl h0 rfl rfl (by decide) ⟨(Nat.le_refl _), (Nat.le_refl _)⟩ (paying_ok hSi hn16) ?_
      refine Ev.goto (tgt := 37) rfl (by decide) ?_
      refine Ev.iret (ty := .int) rfl rfl rfl (Nat.le_refl _) (Nat.le_refl _) ?_
      rw [← hQ]
      refine ⟨congrArg (fun v => some (Value.int v)) (Eq.symm ?_), rfl⟩
      unfold K_fills
      rw [if_neg c17]
      rw [if_neg c23]
  · skip
    refine Ev.iconst (v := (-1)) rfl (by decide) ?_
    refine Ev.iret (ty := .int) rfl rfl rfl (Nat.le_refl _) (Nat.le_refl _) ?_
    rw [← hQ]
    refine ⟨congrArg (fun v => some (Value.int v)) (Eq.symm ?_), rfl⟩
    unfold K_fills
    rw [if_pos c17]
def K_toll (T : Tol) (i j : Nat) : Int32 := if (nI ((tP T j).1)) = (0 : Int32) then (1000 : Int32) else (if ((((((tS T i).2.2 9) 6) * (K_taken (tP T j))) / (nI ((tP T j).1))) + (1 : Int32)) < (1000 : Int32) then (((((tS T i).2.2 9) 6) * (K_taken (tP T j))) / (nI ((tP T j).1))) + (1 : Int32) else (1000 : Int32))
theorem toll_some (hX : isX σ x) (hT : isT σ (x + 1) T) (hw : wT T) {u v : Int32} {i j : Nat} (hg : gd T u v i j)  : RetV Γ m_SD_toll [(.ref x), .int u, .int v] σ (.int (K_toll T i j)) := by
  unfold isX at hX
  obtain ⟨t0, t1, ⟨fs, t2, t3⟩, ⟨fp, t4, t5⟩, t6, t7⟩ := id hT
  obtain ⟨rfl, hi, rfl, hj, hgo⟩ := hg
  have hw1 := hw.2.1
  have hw2 := hw.2.2.1
  have hwS := hw.2.2.2.1 i hi
  have hwP := hw.2.2.2.2 j hj
  have hn16 := hwS.1
  have hn5 := hwS.2.1
  have h6 := hwP.1
  have hSi := t6 i (by omega)
  have hPj := t7 j (by omega)
  have hokL : ∀ k, k < (tP T j).1 → okL (tS T i) ((tP T j).2 k) := fun k hk => goT_okL hwS (hgo k hk).1
  obtain ⟨h0, h1, h2, h3, h4, h5, h6', h7, h8, h9, h10⟩ := id hSi
  obtain ⟨p0, ⟨pf, p1, p2⟩, p3⟩ := id hPj
  unfold RetV
  generalize hQ : (fun (r : Option Value) (σ' : ex_S) => r = some ((.int (K_toll T i j)) : Value) ∧ σ' = σ) = Q
  refine Ret.start pm_41 rfl ?_
  refine Ev.aload_n rfl rfl ?_
  refine Ev.iload_n rfl rfl ?_
  refine Ev.iload_n rfl rfl ?_
  refine Ev.cV2 rfl rfl hX rfl rfl (by decide) ⟨(Nat.le_refl _), (Nat.le_refl _)⟩ (going_some hX hT hw ⟨rfl, hi, rfl, hj, hgo⟩) ?_
  refine Ev.astore_n rfl rfl rfl ?_
  refine Ev.aload_n rfl rfl ?_
  refine Ev.getf rfl rfl hX rfl ?_
  refine Ev.iload_n rfl rfl ?_
  refine Ev.cV1 rfl rfl t0 rfl rfl (by decide) ⟨(Nat.le_refl _), (Nat.le_refl _)⟩ (schoolAt_some hT hw1 hi) ?_
  refine Ev.astore rfl rfl rfl ?_
  refine Ev.aload_n rfl rfl ?_
  refine Ev.ifnull rfl ?_
  refine Ev.aload rfl rfl ?_
  refine Ev.ifnonnull (tgt := 28) rfl (by decide) ?_
  refine Ev.aload_n rfl rfl ?_
  refine Ev.getf rfl rfl p0 rfl ?_
  refine Ev.zne (tgt := 39) rfl (by decide) (fun c32 => ?_) (fun c32 => ?_)
  · skip
    refine Ev.sipush (v := 1000) rfl (by decide) ?_
    refine Ev.aload rfl rfl ?_
    refine Ev.getf rfl rfl h0 rfl ?_
    refine Ev.bipush (v := 6) rfl (by decide) ?_
    refine Ev.ialdN (k := 6) rfl h10 (rfl : (6 : Int32) = nI 6) ⟨(by omega), by decide⟩ ?_
    refine Ev.aload_n rfl rfl ?_
    refine Ev.cV0 rfl rfl p0 rfl rfl (by decide) ⟨(Nat.le_refl _), (Nat.le_refl _)⟩ (taken_ok hPj h6) ?_
    refine Ev.imul rfl ?_
    refine Ev.aload_n rfl rfl ?_
    refine Ev.getf rfl rfl p0 rfl ?_
    refine Ev.idiv rfl c32 ?_
    refine Ev.iconst (v := 1) rfl (by decide) ?_
    refine Ev.iadd rfl ?_
    refine Ev.mmin rfl rfl rfl (Nat.le_of_ble_eq_true rfl) ⟨(Nat.le_refl _), (Nat.le_refl _)⟩ ?_
    refine Ev.iret (ty := .int) rfl rfl rfl (Nat.le_refl _) (Nat.le_refl _) ?_
    rw [← hQ]
    refine ⟨congrArg (fun v => some (Value.int v)) (Eq.symm ?_), rfl⟩
    unfold K_toll
    rw [if_neg c32]
  · skip
    refine Ev.sipush (v := 1000) rfl (by decide) ?_
    refine Ev.iret (ty := .int) rfl rfl rfl (Nat.le_refl _) (Nat.le_refl _) ?_
    rw [← hQ]
    refine ⟨congrArg (fun v => some (Value.int v)) (Eq.symm ?_), rfl⟩
    unfold K_toll
    rw [if_pos c32]
def K_order (T : Tol) (i j j2 : Nat) : Int32 × (Nat → Int32) := if ((K_twoY (tS T i) (tP T j2) (tP T j)).1) < ((K_twoY (tS T i) (tP T j) (tP T j2)).1) then ((0 : Int32), (K_twoY (tS T i) (tP T j2) (tP T j)).2) else (if ((K_twoY (tS T i) (tP T j) (tP T j2)).1) < ((K_twoY (tS T i) (tP T j2) (tP T j)).1) then ((1 : Int32), (K_twoY (tS T i) (tP T j2) (tP T j)).2) else ((2 : Int32), (K_twoY (tS T i) (tP T j2) (tP T j)).2))
theorem order_some (hX0 : isX σ x) (hT0 : isT σ (x + 1) T) (hw : wT T) {u v v2 : Int32} {i j j2 : Nat} (hg : gd T u v i j) (hg2 : gd T u v2 i j2) {D0 : Sch} (hsp : isS σ (x + 84) D0)  : RetX Γ m_SD_order [(.ref x), .int u, .int v, .int v2] σ (x + 84) (x + 95) (some (.int ((K_order T i j j2).1))) (fun τ => isS τ (x + 84) (S_st (tS T i) ((K_order T i j j2).2))) := by
  obtain ⟨rfl, hi, rfl, hj, hgo⟩ := hg
  obtain ⟨e0, -, rfl, hj2, hgo2⟩ := hg2
  have hw1 := hw.2.1
  have hw2 := hw.2.2.1
  have hwS := hw.2.2.2.1 i hi
  have hwP := hw.2.2.2.2 j hj
  have hn16 := hwS.1
  have hn5 := hwS.2.1
  have h6 := hwP.1
  have hokL : ∀ k, k < (tP T j).1 → okL (tS T i) ((tP T j).2 k) := fun k hk => goT_okL hwS (hgo k hk).1
  have hwP2 := hw.2.2.2.2 j2 hj2
  have h62 := hwP2.1
  have hokL2 : ∀ k, k < (tP T j2).1 → okL (tS T i) ((tP T j2).2 k) := fun k hk => goT_okL hwS (hgo2 k hk).1
  unfold RetX
  generalize hQ : (fun (r : Option Value) (τ : ex_S) => r = some (.int ((K_order T i j j2).1)) ∧ frm σ τ (x + 84) (x + 95) ∧ (fun τ : ex_S => isS τ (x + 84) (S_st (tS T i) ((K_order T i j j2).2))) τ) = Q
  refine Ret.start pm_33 rfl ?_
  have fr : frm σ σ (x + 84) (x + 95) := frm.rf
  have hX := isX.frm hX0 fr (by omega)
  have hT := isT.frm hT0 fr (by omega)
  obtain ⟨t0, t1, ⟨fs, t2, t3⟩, ⟨fp, t4, t5⟩, t6, t7⟩ := id hT
  have hSi := t6 i (by omega)
  obtain ⟨h0, h1, h2, h3, h4, h5, h6', h7, h8, h9, h10⟩ := id hSi
  have hPj := t7 j (by omega)
  obtain ⟨p0, ⟨pf, p1, p2⟩, p3⟩ := id hPj
  have hPj2 := t7 j2 (by omega)
  obtain ⟨r0, ⟨rf, r1, r2⟩, r3⟩ := id hPj2
  obtain ⟨e0, e1, e2, e3, e4, e5, e6, e7, e8, e9, e10⟩ := id hsp
  refine Ev.aload_n rfl rfl ?_
  refine Ev.iload_n rfl rfl ?_
  refine Ev.iload_n rfl rfl ?_
  refine Ev.cV2 rfl rfl hX rfl rfl (by decide) ⟨(Nat.le_refl _), (Nat.le_refl _)⟩ (going_some hX hT hw ⟨rfl, hi, rfl, hj, hgo⟩) ?_
  refine Ev.astore rfl rfl rfl ?_
  refine Ev.aload_n rfl rfl ?_
  refine Ev.iload_n rfl rfl ?_
  refine Ev.iload_n rfl rfl ?_
  refine Ev.cV2 rfl rfl hX rfl rfl (by decide) ⟨(Nat.le_refl _), (Nat.le_refl _)⟩ (going_some hX hT hw ⟨rfl, hi, rfl, hj2, hgo2⟩) ?_
  refine Ev.astore rfl rfl rfl ?_
  refine Ev.aload_n rfl rfl ?_
  refine Ev.getf rfl rfl hX rfl ?_
  refine Ev.iload_n rfl rfl ?_
  refine Ev.cV1 rfl rfl t0 rfl rfl (by decide) ⟨(Nat.le_refl _), (Nat.le_refl _)⟩ (schoolAt_some hT hw1 hi) ?_
  refine Ev.astore rfl rfl rfl ?_
  refine Ev.aload rfl rfl ?_
  refine Ev.ifnull rfl ?_
  refine Ev.aload rfl rfl ?_
  refine Ev.ifnull rfl ?_
  refine Ev.aload rfl rfl ?_
  refine Ev.ifnonnull (tgt := 43) rfl (by decide) ?_
  refine Ev.aload_n rfl rfl ?_
  refine Ev.aload rfl rfl ?_
  refine Ev.aload rfl rfl ?_
  refine Ev.aload rfl rfl ?_
  refine Ev.xV3 rfl rfl hX rfl rfl (by decide) ⟨(Nat.le_refl _), (Nat.le_refl _)⟩ (twoY_ok hX hsp hSi hPj hPj2 hwP hwP2 hn16 hn5 hokL hokL2 (by omega) (by omega) (by omega)) (fun τ1 f1 q1 => ?_)
  have hsp := q1
  have fr := fr.step f1 (by omega) (by omega)
  have hX := isX.frm hX0 fr (by omega)
  have hT := isT.frm hT0 fr (by omega)
  obtain ⟨t0, t1, ⟨fs, t2, t3⟩, ⟨fp, t4, t5⟩, t6, t7⟩ := id hT
  have hSi := t6 i (by omega)
  obtain ⟨h0, h1, h2, h3, h4, h5, h6', h7, h8, h9, h10⟩ := id hSi
  have hPj := t7 j (by omega)
  obtain ⟨p0, ⟨pf, p1, p2⟩, p3⟩ := id hPj
  have hPj2 := t7 j2 (by omega)
  obtain ⟨r0, ⟨rf, r1, r2⟩, r3⟩ := id hPj2
  obtain ⟨e0, e1, e2, e3, e4, e5, e6, e7, e8, e9, e10⟩ := id hsp
  refine Ev.istore rfl rfl rfl ?_
  refine Ev.aload_n rfl rfl ?_
  refine Ev.aload rfl rfl ?_
  refine Ev.aload rfl rfl ?_
  refine Ev.aload rfl rfl ?_
  refine Ev.xV3 rfl rfl hX rfl rfl (by decide) ⟨(Nat.le_refl _), (Nat.le_refl _)⟩ (twoY_ok hX hsp hSi hPj2 hPj hwP2 hwP hn16 hn5 hokL2 hokL (by omega) (by omega) (by omega)) (fun τ2 f1 q1 => ?_)
  have hsp := q1
  have fr := fr.step f1 (by omega) (by omega)
  have hX := isX.frm hX0 fr (by omega)
  have hT := isT.frm hT0 fr (by omega)
  obtain ⟨t0, t1, ⟨fs, t2, t3⟩, ⟨fp, t4, t5⟩, t6, t7⟩ := id hT
  have hSi := t6 i (by omega)
  obtain ⟨h0, h1, h2, h3, h4, h5, h6', h7, h8, h9, h10⟩ := id hSi
  have hPj := t7 j (by omega)
  obtain ⟨p0, ⟨pf, p1, p2⟩, p3⟩ := id hPj
  have hPj2 := t7 j2 (by omega)
  obtain ⟨r0, ⟨rf, r1, r2⟩, r3⟩ := id hPj2
  obtain ⟨e0, e1, e2, e3, e4, e5, e6, e7, e8, e9, e10⟩ := id hsp
  refine Ev.istore rfl rfl rfl ?_
  refine Ev.iload rfl rfl ?_
  refine Ev.iload rfl rfl ?_
  refine Ev.jle (tgt := 78) rfl (by decide) (fun c71 => ?_) (fun c71 => ?_)
  · skip
    refine Ev.iload rfl rfl ?_
    refine Ev.iload rfl rfl ?_
    refine Ev.jge (tgt := 89) rfl (by decide) (fun c82 => ?_) (fun c82 => ?_)
    · skip
      refine Ev.iconst (v := 2) rfl (by decide) ?_
      refine Ev.iret (ty := .int) rfl rfl rfl (Nat.le_refl _) (Nat.le_refl _) ?_
      have hK : (K_order T i j j2) = ((2 : Int32), (K_twoY (tS T i) (tP T j2) (tP T j)).2) := by
        unfold K_order
        rw [if_neg c71]
        rw [if_neg c82]
      rw [← hQ]
      dsimp only
      rw [hK]
      exact ⟨rfl, fr, hsp⟩
    · skip
      refine Ev.iconst (v := 1) rfl (by decide) ?_
      refine Ev.goto (tgt := 90) rfl (by decide) ?_
      refine Ev.iret (ty := .int) rfl rfl rfl (Nat.le_refl _) (Nat.le_refl _) ?_
      have hK : (K_order T i j j2) = ((1 : Int32), (K_twoY (tS T i) (tP T j2) (tP T j)).2) := by
        unfold K_order
        rw [if_neg c71]
        rw [if_pos c82]
      rw [← hQ]
      dsimp only
      rw [hK]
      exact ⟨rfl, fr, hsp⟩
  · skip
    refine Ev.iconst (v := 0) rfl (by decide) ?_
    refine Ev.goto (tgt := 90) rfl (by decide) ?_
    refine Ev.iret (ty := .int) rfl rfl rfl (Nat.le_refl _) (Nat.le_refl _) ?_
    have hK : (K_order T i j j2) = ((0 : Int32), (K_twoY (tS T i) (tP T j2) (tP T j)).2) := by
      unfold K_order
      rw [if_pos c71]
    rw [← hQ]
    dsimp only
    rw [hK]
    exact ⟨rfl, fr, hsp⟩
def K_wrong (T : Tol) (i j : Nat) (w : Nat) (fnd : Nat → Int32) : Int32 × (Nat → Int32) := if ((K_findWrong (tS T i) (tP T j) fnd).1) = (0 : Int32) then (if (nI w) = (0 : Int32) then ((0 : Int32), (K_findWrong (tS T i) (tP T j) fnd).2) else ((-1 : Int32), (K_findWrong (tS T i) (tP T j) fnd).2)) else (((K_findWrong (tS T i) (tP T j) fnd).2) w, (K_findWrong (tS T i) (tP T j) fnd).2)
theorem wrong_some (hX0 : isX σ x) (hT0 : isT σ (x + 1) T) (hw : wT T) {u v : Int32} {i j : Nat} (hg : gd T u v i j) {fnd : Nat → Int32} (hfo : σ.2 (x + 115) = some (.inl (0, 3, fnd))) {w : Nat} (hw3 : w ≤ 2) : RetX Γ m_SD_wrong [(.ref x), .int u, .int v, (.int (nI w))] σ (x + 115) (x + 116) (some (.int ((K_wrong T i j w fnd).1))) (fun τ => τ.2 (x + 115) = some (.inl (0, 3, (K_wrong T i j w fnd).2))) := by
  obtain ⟨rfl, hi, rfl, hj, hgo⟩ := hg
  have hw1 := hw.2.1
  have hw2 := hw.2.2.1
  have hwS := hw.2.2.2.1 i hi
  have hwP := hw.2.2.2.2 j hj
  have hn16 := hwS.1
  have hn5 := hwS.2.1
  have h6 := hwP.1
  have hokL : ∀ k, k < (tP T j).1 → okL (tS T i) ((tP T j).2 k) := fun k hk => goT_okL hwS (hgo k hk).1
  unfold RetX
  generalize hQ : (fun (r : Option Value) (τ : ex_S) => r = some (.int ((K_wrong T i j w fnd).1)) ∧ frm σ τ (x + 115) (x + 116) ∧ (fun τ : ex_S => τ.2 (x + 115) = some (.inl (0, 3, (K_wrong T i j w fnd).2))) τ) = Q
  refine Ret.start pm_13 rfl ?_
  have fr : frm σ σ (x + 115) (x + 116) := frm.rf
  have hX := isX.frm hX0 fr (by omega)
  have hT := isT.frm hT0 fr (by omega)
  obtain ⟨t0, t1, ⟨fs, t2, t3⟩, ⟨fp, t4, t5⟩, t6, t7⟩ := id hT
  have hSi := t6 i (by omega)
  obtain ⟨h0, h1, h2, h3, h4, h5, h6', h7, h8, h9, h10⟩ := id hSi
  have hPj := t7 j (by omega)
  obtain ⟨p0, ⟨pf, p1, p2⟩, p3⟩ := id hPj
  refine Ev.aload_n rfl rfl ?_
  refine Ev.iload_n rfl rfl ?_
  refine Ev.iload_n rfl rfl ?_
  refine Ev.cV2 rfl rfl hX rfl rfl (by decide) ⟨(Nat.le_refl _), (Nat.le_refl _)⟩ (going_some hX hT hw ⟨rfl, hi, rfl, hj, hgo⟩) ?_
  refine Ev.astore rfl rfl rfl ?_
  refine Ev.aload_n rfl rfl ?_
  refine Ev.getf rfl rfl hX rfl ?_
  refine Ev.iload_n rfl rfl ?_
  refine Ev.cV1 rfl rfl t0 rfl rfl (by decide) ⟨(Nat.le_refl _), (Nat.le_refl _)⟩ (schoolAt_some hT hw1 hi) ?_
  refine Ev.astore rfl rfl rfl ?_
  refine Ev.aload rfl rfl ?_
  refine Ev.ifnull rfl ?_
  refine Ev.aload rfl rfl ?_
  refine Ev.ifnull rfl ?_
  refine Ev.iload_n rfl rfl ?_
  refine Ev.zlt (tgt := 37) rfl (by decide) (fun c29 => absurd c29 (nI_pos (by omega))) (fun c29 => ?_)
  refine Ev.iload_n rfl rfl ?_
  refine Ev.iconst (v := 2) rfl (by decide) ?_
  refine Ev.jle (tgt := 39) rfl (by decide) (fun c34 => ?_) (fun c34 => absurd c34 (nI_nlt (a := 2) hw3 (by omega)))
  refine Ev.aload_n rfl rfl ?_
  refine Ev.aload rfl rfl ?_
  refine Ev.aload rfl rfl ?_
  refine Ev.xV2 rfl rfl hX rfl rfl (by decide) ⟨(Nat.le_refl _), (Nat.le_refl _)⟩ (findWrong_ok hX hfo hSi hPj hwP hn16 hn5 hokL (by omega) (by omega)) (fun τ1 f1 q1 => ?_)
  have hfo := q1
  have fr := fr.step f1 (by omega) (by omega)
  have hX := isX.frm hX0 fr (by omega)
  have hT := isT.frm hT0 fr (by omega)
  obtain ⟨t0, t1, ⟨fs, t2, t3⟩, ⟨fp, t4, t5⟩, t6, t7⟩ := id hT
  have hSi := t6 i (by omega)
  obtain ⟨h0, h1, h2, h3, h4, h5, h6', h7, h8, h9, h10⟩ := id hSi
  have hPj := t7 j (by omega)
  obtain ⟨p0, ⟨pf, p1, p2⟩, p3⟩ := id hPj
  refine Ev.zeq (tgt := 57) rfl (by decide) (fun c47 => ?_) (fun c47 => ?_)
  · skip
    refine Ev.iload_n rfl rfl ?_
    refine Ev.zne (tgt := 65) rfl (by decide) (fun c58 => ?_) (fun c58 => ?_)
    · skip
      refine Ev.iconst (v := (-1)) rfl (by decide) ?_
      refine Ev.iret (ty := .int) rfl rfl rfl (Nat.le_refl _) (Nat.le_refl _) ?_
      have hK : (K_wrong T i j w fnd) = ((-1 : Int32), (K_findWrong (tS T i) (tP T j) fnd).2) := by
        unfold K_wrong
        rw [if_pos c47]
        rw [if_neg c58]
      rw [← hQ]
      dsimp only
      rw [hK]
      exact ⟨rfl, fr, hfo⟩
    · skip
      refine Ev.iconst (v := 0) rfl (by decide) ?_
      refine Ev.goto (tgt := 66) rfl (by decide) ?_
      refine Ev.iret (ty := .int) rfl rfl rfl (Nat.le_refl _) (Nat.le_refl _) ?_
      have hK : (K_wrong T i j w fnd) = ((0 : Int32), (K_findWrong (tS T i) (tP T j) fnd).2) := by
        unfold K_wrong
        rw [if_pos c47]
        rw [if_pos c58]
      rw [← hQ]
      dsimp only
      rw [hK]
      exact ⟨rfl, fr, hfo⟩
  · skip
    refine Ev.aload_n rfl rfl ?_
    refine Ev.getf rfl rfl hX rfl ?_
    refine Ev.iload_n rfl rfl ?_
    refine Ev.ialdN (k := w) rfl hfo rfl ⟨(by omega), by decide⟩ ?_
    refine Ev.iret (ty := .int) rfl rfl rfl (Nat.le_refl _) (Nat.le_refl _) ?_
    have hK : (K_wrong T i j w fnd) = (((K_findWrong (tS T i) (tP T j) fnd).2) w, (K_findWrong (tS T i) (tP T j) fnd).2) := by
      unfold K_wrong
      rw [if_neg c47]
    rw [← hQ]
    dsimp only
    rw [hK]
    exact ⟨rfl, fr, hfo⟩
def K_move (T : Tol) (i j : Nat) (w : Nat) (fnd : Nat → Int32) : Int32 × (Nat → Int32) := if ((K_findMove (tS T i) (tP T j) fnd).1) = (0 : Int32) then ((-1 : Int32), (K_findMove (tS T i) (tP T j) fnd).2) else (((K_findMove (tS T i) (tP T j) fnd).2) w, (K_findMove (tS T i) (tP T j) fnd).2)
theorem move_some (hX0 : isX σ x) (hT0 : isT σ (x + 1) T) (hw : wT T) {u v : Int32} {i j : Nat} (hg : gd T u v i j) {fnd : Nat → Int32} (hfo : σ.2 (x + 115) = some (.inl (0, 3, fnd))) {w : Nat} (hw3 : w ≤ 2) : RetX Γ m_SD_move [(.ref x), .int u, .int v, (.int (nI w))] σ (x + 115) (x + 116) (some (.int ((K_move T i j w fnd).1))) (fun τ => τ.2 (x + 115) = some (.inl (0, 3, (K_move T i j w fnd).2))) := by
  obtain ⟨rfl, hi, rfl, hj, hgo⟩ := hg
  have hw1 := hw.2.1
  have hw2 := hw.2.2.1
  have hwS := hw.2.2.2.1 i hi
  have hwP := hw.2.2.2.2 j hj
  have hn16 := hwS.1
  have hn5 := hwS.2.1
  have h6 := hwP.1
  have hokL : ∀ k, k < (tP T j).1 → okL (tS T i) ((tP T j).2 k) := fun k hk => goT_okL hwS (hgo k hk).1
  unfold RetX
  generalize hQ : (fun (r : Option Value) (τ : ex_S) => r = some (.int ((K_move T i j w fnd).1)) ∧ frm σ τ (x + 115) (x + 116) ∧ (fun τ : ex_S => τ.2 (x + 115) = some (.inl (0, 3, (K_move T i j w fnd).2))) τ) = Q
  refine Ret.start pm_21 rfl ?_
  have fr : frm σ σ (x + 115) (x + 116) := frm.rf
  have hX := isX.frm hX0 fr (by omega)
  have hT := isT.frm hT0 fr (by omega)
  obtain ⟨t0, t1, ⟨fs, t2, t3⟩, ⟨fp, t4, t5⟩, t6, t7⟩ := id hT
  have hSi := t6 i (by omega)
  obtain ⟨h0, h1, h2, h3, h4, h5, h6', h7, h8, h9, h10⟩ := id hSi
  have hPj := t7 j (by omega)
  obtain ⟨p0, ⟨pf, p1, p2⟩, p3⟩ := id hPj
  refine Ev.aload_n rfl rfl ?_
  refine Ev.iload_n rfl rfl ?_
  refine Ev.iload_n rfl rfl ?_
  refine Ev.cV2 rfl rfl hX rfl rfl (by decide) ⟨(Nat.le_refl _), (Nat.le_refl _)⟩ (going_some hX hT hw ⟨rfl, hi, rfl, hj, hgo⟩) ?_
  refine Ev.astore rfl rfl rfl ?_
  refine Ev.aload_n rfl rfl ?_
  refine Ev.getf rfl rfl hX rfl ?_
  refine Ev.iload_n rfl rfl ?_
  refine Ev.cV1 rfl rfl t0 rfl rfl (by decide) ⟨(Nat.le_refl _), (Nat.le_refl _)⟩ (schoolAt_some hT hw1 hi) ?_
  refine Ev.astore rfl rfl rfl ?_
  refine Ev.aload rfl rfl ?_
  refine Ev.ifnull rfl ?_
  refine Ev.aload rfl rfl ?_
  refine Ev.ifnull rfl ?_
  refine Ev.iload_n rfl rfl ?_
  refine Ev.zlt (tgt := 48) rfl (by decide) (fun c29 => absurd c29 (nI_pos (by omega))) (fun c29 => ?_)
  refine Ev.iload_n rfl rfl ?_
  refine Ev.iconst (v := 2) rfl (by decide) ?_
  refine Ev.jgt (tgt := 48) rfl (by decide) (fun c34 => absurd c34 (nI_nlt (a := 2) hw3 (by omega))) (fun c34 => ?_)
  refine Ev.aload_n rfl rfl ?_
  refine Ev.aload rfl rfl ?_
  refine Ev.aload rfl rfl ?_
  refine Ev.xV2 rfl rfl hX rfl rfl (by decide) ⟨(Nat.le_refl _), (Nat.le_refl _)⟩ (findMove_ok hX hfo hSi hPj hwP hn16 hn5 hokL (by omega) (by omega)) (fun τ1 f1 q1 => ?_)
  have hfo := q1
  have fr := fr.step f1 (by omega) (by omega)
  have hX := isX.frm hX0 fr (by omega)
  have hT := isT.frm hT0 fr (by omega)
  obtain ⟨t0, t1, ⟨fs, t2, t3⟩, ⟨fp, t4, t5⟩, t6, t7⟩ := id hT
  have hSi := t6 i (by omega)
  obtain ⟨h0, h1, h2, h3, h4, h5, h6', h7, h8, h9, h10⟩ := id hSi
  have hPj := t7 j (by omega)
  obtain ⟨p0, ⟨pf, p1, p2⟩, p3⟩ := id hPj
  refine Ev.zne (tgt := 50) rfl (by decide) (fun c45 => ?_) (fun c45 => ?_)
  · skip
    refine Ev.aload_n rfl rfl ?_
    refine Ev.getf rfl rfl hX rfl ?_
    refine Ev.iload_n rfl rfl ?_
    refine Ev.ialdN (k := w) rfl hfo rfl ⟨(by omega), by decide⟩ ?_
    refine Ev.iret (ty := .int) rfl rfl rfl (Nat.le_refl _) (Nat.le_refl _) ?_
    have hK : (K_move T i j w fnd) = (((K_findMove (tS T i) (tP T j) fnd).2) w, (K_findMove (tS T i) (tP T j) fnd).2) := by
      unfold K_move
      rw [if_neg c45]
    rw [← hQ]
    dsimp only
    rw [hK]
    exact ⟨rfl, fr, hfo⟩
  · skip
    refine Ev.iconst (v := (-1)) rfl (by decide) ?_
    refine Ev.iret (ty := .int) rfl rfl rfl (Nat.le_refl _) (Nat.le_refl _) ?_
    have hK : (K_move T i j w fnd) = ((-1 : Int32), (K_findMove (tS T i) (tP T j) fnd).2) := by
      unfold K_move
      rw [if_pos c45]
    rw [← hQ]
    dsimp only
    rw [hK]
    exact ⟨rfl, fr, hfo⟩
def K_merge (T : Tol) (i j : Nat) (w : Nat) (fnd : Nat → Int32) : Int32 × (Nat → Int32) := if ((K_findMerge (tS T i) (tP T j) fnd).1) = (0 : Int32) then ((-1000000 : Int32), (K_findMerge (tS T i) (tP T j) fnd).2) else (((K_findMerge (tS T i) (tP T j) fnd).2) w, (K_findMerge (tS T i) (tP T j) fnd).2)
theorem merge_some (hX0 : isX σ x) (hT0 : isT σ (x + 1) T) (hw : wT T) {u v : Int32} {i j : Nat} (hg : gd T u v i j) {fnd : Nat → Int32} (hfo : σ.2 (x + 115) = some (.inl (0, 3, fnd))) {w : Nat} (hw3 : w ≤ 2) : RetX Γ m_SD_merge [(.ref x), .int u, .int v, (.int (nI w))] σ (x + 115) (x + 116) (some (.int ((K_merge T i j w fnd).1))) (fun τ => τ.2 (x + 115) = some (.inl (0, 3, (K_merge T i j w fnd).2))) := by
  obtain ⟨rfl, hi, rfl, hj, hgo⟩ := hg
  have hw1 := hw.2.1
  have hw2 := hw.2.2.1
  have hwS := hw.2.2.2.1 i hi
  have hwP := hw.2.2.2.2 j hj
  have hn16 := hwS.1
  have hn5 := hwS.2.1
  have h6 := hwP.1
  have hokL : ∀ k, k < (tP T j).1 → okL (tS T i) ((tP T j).2 k) := fun k hk => goT_okL hwS (hgo k hk).1
  unfold RetX
  generalize hQ : (fun (r : Option Value) (τ : ex_S) => r = some (.int ((K_merge T i j w fnd).1)) ∧ frm σ τ (x + 115) (x + 116) ∧ (fun τ : ex_S => τ.2 (x + 115) = some (.inl (0, 3, (K_merge T i j w fnd).2))) τ) = Q
  refine Ret.start pm_36 rfl ?_
  have fr : frm σ σ (x + 115) (x + 116) := frm.rf
  have hX := isX.frm hX0 fr (by omega)
  have hT := isT.frm hT0 fr (by omega)
  obtain ⟨t0, t1, ⟨fs, t2, t3⟩, ⟨fp, t4, t5⟩, t6, t7⟩ := id hT
  have hSi := t6 i (by omega)
  obtain ⟨h0, h1, h2, h3, h4, h5, h6', h7, h8, h9, h10⟩ := id hSi
  have hPj := t7 j (by omega)
  obtain ⟨p0, ⟨pf, p1, p2⟩, p3⟩ := id hPj
  refine Ev.aload_n rfl rfl ?_
  refine Ev.iload_n rfl rfl ?_
  refine Ev.iload_n rfl rfl ?_
  refine Ev.cV2 rfl rfl hX rfl rfl (by decide) ⟨(Nat.le_refl _), (Nat.le_refl _)⟩ (going_some hX hT hw ⟨rfl, hi, rfl, hj, hgo⟩) ?_
  refine Ev.astore rfl rfl rfl ?_
  refine Ev.aload_n rfl rfl ?_
  refine Ev.getf rfl rfl hX rfl ?_
  refine Ev.iload_n rfl rfl ?_
  refine Ev.cV1 rfl rfl t0 rfl rfl (by decide) ⟨(Nat.le_refl _), (Nat.le_refl _)⟩ (schoolAt_some hT hw1 hi) ?_
  refine Ev.astore rfl rfl rfl ?_
  refine Ev.aload rfl rfl ?_
  refine Ev.ifnull rfl ?_
  refine Ev.aload rfl rfl ?_
  refine Ev.ifnull rfl ?_
  refine Ev.iload_n rfl rfl ?_
  refine Ev.zlt (tgt := 48) rfl (by decide) (fun c29 => absurd c29 (nI_pos (by omega))) (fun c29 => ?_)
  refine Ev.iload_n rfl rfl ?_
  refine Ev.iconst (v := 2) rfl (by decide) ?_
  refine Ev.jgt (tgt := 48) rfl (by decide) (fun c34 => absurd c34 (nI_nlt (a := 2) hw3 (by omega))) (fun c34 => ?_)
  refine Ev.aload_n rfl rfl ?_
  refine Ev.aload rfl rfl ?_
  refine Ev.aload rfl rfl ?_
  refine Ev.xV2 rfl rfl hX rfl rfl (by decide) ⟨(Nat.le_refl _), (Nat.le_refl _)⟩ (findMerge_ok hX hfo hSi hPj hwP hn16 hn5 hokL (by omega) (by omega)) (fun τ1 f1 q1 => ?_)
  have hfo := q1
  have fr := fr.step f1 (by omega) (by omega)
  have hX := isX.frm hX0 fr (by omega)
  have hT := isT.frm hT0 fr (by omega)
  obtain ⟨t0, t1, ⟨fs, t2, t3⟩, ⟨fp, t4, t5⟩, t6, t7⟩ := id hT
  have hSi := t6 i (by omega)
  obtain ⟨h0, h1, h2, h3, h4, h5, h6', h7, h8, h9, h10⟩ := id hSi
  have hPj := t7 j (by omega)
  obtain ⟨p0, ⟨pf, p1, p2⟩, p3⟩ := id hPj
  refine Ev.zne (tgt := 51) rfl (by decide) (fun c45 => ?_) (fun c45 => ?_)
  · skip
    refine Ev.aload_n rfl rfl ?_
    refine Ev.getf rfl rfl hX rfl ?_
    refine Ev.iload_n rfl rfl ?_
    refine Ev.ialdN (k := w) rfl hfo rfl ⟨(by omega), by decide⟩ ?_
    refine Ev.iret (ty := .int) rfl rfl rfl (Nat.le_refl _) (Nat.le_refl _) ?_
    have hK : (K_merge T i j w fnd) = (((K_findMerge (tS T i) (tP T j) fnd).2) w, (K_findMerge (tS T i) (tP T j) fnd).2) := by
      unfold K_merge
      rw [if_neg c45]
    rw [← hQ]
    dsimp only
    rw [hK]
    exact ⟨rfl, fr, hfo⟩
  · skip
    refine Ev.ldc (v := (-1000000)) rfl rfl ?_
    refine Ev.iret (ty := .int) rfl rfl rfl (Nat.le_refl _) (Nat.le_refl _) ?_
    have hK : (K_merge T i j w fnd) = ((-1000000 : Int32), (K_findMerge (tS T i) (tP T j) fnd).2) := by
      unfold K_merge
      rw [if_pos c45]
    rw [← hQ]
    dsimp only
    rw [hK]
    exact ⟨rfl, fr, hfo⟩
end
end
