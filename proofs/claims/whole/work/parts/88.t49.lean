/-! Texts of schools (reference): couples. -/
noncomputable section
/-- who leaves his partner, in the reference's row -/
def alF (rd : Nat → Int32) (l : Nat) : Nat → Int32 := upd (if rd (61 + l) < 0 then rd else upd rd (61 + (rd (61 + l)).toNatClampNeg) (-1)) (61 + l) (-1)
def cpF (rd : Nat → Int32) (a c : Nat) : Nat → Int32 := upd (upd (alF (alF rd a) c) (61 + a) (nI c)) (61 + c) (nI a)
theorem alF_n {rd : Nat → Int32} {l q : Nat} (h : rd (61 + l) = nI q) (hq : q < 16) : alF rd l = upd (upd rd (61 + q) (-1)) (61 + l) (-1) := by
  unfold alF
  rw [h, if_neg (nI_pos (by omega)), nI_clamp (by omega)]
theorem alF_0 {rd : Nat → Int32} {l : Nat} (h : rd (61 + l) = -1) : alF rd l = upd rd (61 + l) (-1) := by
  unfold alF
  rw [h, if_pos (show (-1 : Int32) < 0 by decide)]
theorem SF.alone {b l : Nat} {rd : Nat → Int32} (h : SF b rd) (hl : l < 16) : SF b (alF rd l) := by
  rcases h.2.2.1 l hl with hp | ⟨q, hq, hp⟩
  · rw [alF_0 hp]
    exact h.mate hl (Or.inl rfl)
  · rw [alF_n hp hq]
    exact (h.mate hq (Or.inl rfl)).mate hl (Or.inl rfl)
theorem SF.cpl {b a c : Nat} {rd : Nat → Int32} (h : SF b rd) (ha : a < 16) (hc : c < 16) : SF b (cpF rd a c) := (((h.alone ha).alone hc).mate ha (Or.inr ⟨c, hc, rfl⟩)).mate hc (Or.inr ⟨a, ha, rfl⟩)
theorem alF_far {rd : Nat → Int32} {l q : Nat} (hl : l < 16) (hm : rd (61 + l) = -1 ∨ ∃ r, r < 16 ∧ rd (61 + l) = nI r) (hq : q < 61 ∨ 77 ≤ q) : alF rd l q = rd q := by
  rcases hm with hp | ⟨r, hr, hp⟩
  · rw [alF_0 hp, pk_un (by omega)]
  · rw [alF_n hp hr, pk_un (by omega), pk_un (by omega)]
theorem lvF_m1 {n : Nat} {f : Nat → Int32} : lvF n f (-1) = f := by
  unfold lvF
  rw [if_pos (show (-1 : Int32) < 0 by decide)]
theorem lvF_big {n q : Nat} {f : Nat → Int32} (h : n ≤ q) (hq : q < 100) : lvF n f (nI q) = f := by
  unfold lvF
  rw [if_neg (nI_pos (by omega)), if_pos (nI_le h (by omega))]
theorem lvF_n {n q : Nat} {f : Nat → Int32} (h : q < n) (hn : n < 100) : lvF n f (nI q) = upd f q (-1) := by
  unfold lvF
  rw [if_neg (nI_pos (by omega)), if_neg (fun c => absurd (nI_lt h (by omega)) (Int32.not_lt.mpr c)), nI_clamp (by omega)]
/-- both leave the same partner, among the first n -/
theorem al_lv {rd f : Nat → Int32} {n a : Nat} (hn : n ≤ 16) (ha : a < n) (hf : ∀ i, i < n → rd (61 + i) = f i) (hm : rd (61 + a) = -1 ∨ ∃ r, r < 16 ∧ rd (61 + a) = nI r) : ∀ i, i < n → i ≠ a → alF rd a (61 + i) = lvF n f (f a) i := by
  intro i hi hia
  rcases hm with hp | ⟨r, hr, hp⟩
  · rw [alF_0 hp, pk_un (by omega), ← hf a ha, hp, lvF_m1]
    exact hf i hi
  · rw [alF_n hp hr, pk_un (by omega), ← hf a ha, hp]
    by_cases c : r < n
    · rw [lvF_n c (by omega)]
      by_cases d : i = r
      · subst d
        rw [pk_us, pk_us]
      · rw [pk_un (by omega), pk_un d]
        exact hf i hi
    · rw [lvF_big (by omega) (by omega), pk_un (by omega)]
      exact hf i hi
theorem mS_cpl {S : Sch} {rd : Nat → Int32} {b a c : Nat} (h : mS rd 0 S) (h16 : S.1 ≤ 16) (h5 : S.2.1 ≤ 5) (hs : SF b rd) (ha : a < S.1) (hc : c < S.1) (hac : c ≠ a) : mS (cpF rd a c) 0 (S_ar S 3 (cplF S.1 (S.2.2 3) a c)) := by
  have hf : ∀ i, i < S.1 → rd (61 + i) = S.2.2 3 i := fun i hi => by
    have := (h.2.2.2.1 i hi).2.2.2.1
    rwa [show 0 + 61 + i = 61 + i by omega] at this
  have hm1 := hs.2.2.1 a (by omega)
  have hm2 := (hs.alone (l := a) (by omega)).2.2.1 c (by omega)
  refine mS_1 h h16 h5 (fun q hq => ?_) (fun i hi => ?_)
  · unfold cpF
    rw [pk_un (by omega), pk_un (by omega), alF_far (by omega) hm2 hq, alF_far (by omega) hm1 hq]
  · have e1 : ∀ i, i < S.1 → i ≠ a → alF rd a (61 + i) = lvF S.1 (S.2.2 3) (S.2.2 3 a) i := al_lv h16 ha hf hm1
    unfold cpF cplF
    by_cases d : i = c
    · subst d
      rw [pk_us, pk_us]
    · rw [pk_un (show 61 + i ≠ 61 + c by omega), pk_un d]
      by_cases e : i = a
      · subst e
        rw [pk_us, pk_us]
      · rw [pk_un (show 61 + i ≠ 61 + a by omega), pk_un e]
        have e2 := e1 c hc hac
        rcases hm2 with hp | ⟨r, hr, hp⟩
        · rw [alF_0 hp, pk_un (by omega), ← e2, hp, lvF_m1]
          exact e1 i hi e
        · rw [alF_n hp hr, pk_un (by omega), ← e2, hp]
          by_cases k : r < S.1
          · rw [lvF_n k (by omega)]
            by_cases w : i = r
            · subst w
              rw [pk_us, pk_us]
            · rw [pk_un (by omega), pk_un w]
              exact e1 i hi e
          · rw [lvF_big (by omega) (by omega), pk_un (by omega)]
            exact e1 i hi e
theorem K_in_L {L : Nat} (hL : L ≤ 700) : ∀ v, v ≤ 999 → K_in (nI v) (nI 0) (nI L - 1) = if (fun v => decide (v < L)) v = true then 1 else 0 := by
  intro v _
  by_cases c : v < L
  · rw [if_pos (show (fun v => decide (v < L)) v = true from decide_eq_true c)]
    exact K_in_y rfl (by omega) c
  · rw [if_neg (show ¬ (fun v => decide (v < L)) v = true from fun h => c (of_decide_eq_true h))]
    exact K_in_n rfl (by omega) (Or.inr (nI_le (by omega) (by omega)))
theorem rvl_L {U : Nat → Nat} {n L : Nat} {s : Rs} : rvl U n 0 (fun v => decide (v < L)) s ≤ L := by
  unfold rvl
  split
  · exact Nat.zero_le _
  · split
    · rename_i h
      exact Nat.le_of_lt (of_decide_eq_true h)
    · exact Nat.zero_le _
theorem cpl_ho {U : Nat → Nat} {n : Nat} {g : Bool} {s : Rs} (hok : Rok U n s) (hw : Rw (nst U n g s) = false) (hf : ¬ Rf (nst U n g s) = 0) : ∃ q, Rp (nst U n g s) = nI q ∧ (q < tS0 U n (Re s) ∨ q = tS0 U n (Re s) ∧ Rf (nst U n g s) ≤ 2) := by
  obtain ⟨w, k, -⟩ := nst_nw hw
  rw [nst_n w k] at hf ⊢
  by_cases c : g = true ∨ ¬ Rf s = 0
  · rw [if_pos c] at hf ⊢
    obtain ⟨q, q1, q2⟩ := hok.2.2 w hf
    exact ⟨q, q1, Or.inl q2⟩
  · rw [if_neg c]
    exact ⟨_, rfl, Or.inr ⟨rfl, Nat.le_refl _⟩⟩
/-- the line of a couple: the reference's readings are the chain's -/
theorem cpl_chn {U : Nat → Nat} {n L L1 : Nat} {s s2 s3 : Rs} {v : Nat} {ab : Bool} {sm : Prop} (hw : Rw s = false) (hL : Rf s = 0 → L = L1) (h2 : s2 = nst U n ((fun v => decide (v < L)) (tV U n (Re s))) s) (h3 : s3 = nst U n ((fun v => decide (v < L)) (tV U n (Re s2))) s2) (hv : v = rvl U n 0 (fun v => decide (v < L)) s) (ha : ab = rab U n (fun v => decide (v < L)) true s) (hsm : sm ↔ tK U n (Re s2) = 1 ∧ tV U n (Re s2) = v ∧ ab = true) : (sm → chn U n 1 L1 s 2 = rnt s3 2 (tS0 U n (Re s2))) ∧ (¬ sm → chn U n 1 L1 s 2 = s3) := by
  have c1 : chn U n 1 L1 s 1 = s2 := by
    rw [h2]
    refine nst_eq rfl (fun _ _ f => ?_)
    show (if (1 : Nat) = 1 then decide (tV U n (Re s) < L1) && (decide (0 = 0) || !decide (tV U n (Re s) = tV U n (Re s))) else _) = decide (tV U n (Re s) < L)
    rw [if_pos rfl, hL f]
    simp
  have c2 : chn U n 1 L1 s 2 = nst U n (decide (tV U n (Re s2) < L1) && !decide (tV U n (Re s2) = tV U n (Re s))) s2 := by
    show nst U n (gds 1 1 (tV U n (Re s)) L1 (tV U n (Re (chn U n 1 L1 s 1)))) (chn U n 1 L1 s 1) = _
    rw [c1]
    unfold gds
    rw [if_pos rfl]
    simp
  rw [c2]
  by_cases hk : tK U n (Re s2) = 1
  · by_cases hw2 : Rw s2 = true
    · have hwn : ¬ tK U n (Re s) = 1 := by
        rw [h2] at hw2
        rcases nst_Rw.mp hw2 with q | q
        · rw [hw] at q; cases q
        · exact q
      have e2 : Re s2 = Re s := by
        rw [h2, nst_w (Or.inr hwn)]
        rfl
      rw [e2] at hk
      exact absurd hk hwn
    · have hw2 : Rw s2 = false := by
        cases hx : Rw s2
        · rfl
        · exact absurd hx hw2
      have hk1 : tK U n (Re s) = 1 := by
        rw [h2] at hw2
        exact (nst_nw hw2).2.1
      have hno : ¬ (Rw s = true ∨ ¬ tK U n (Re s) = 1) := fun h => h.elim (fun h => by rw [hw] at h; cases h) (fun h => h hk1)
      have hab : ab = decide (tV U n (Re s) < L) := by
        rw [ha]
        unfold rab
        rw [if_neg hno, Bool.true_and]
      by_cases hf : Rf s2 = 0
      · have hg : Rf s = 0 ∧ decide (tV U n (Re s) < L) = true := by
          rw [h2] at hw2 hf
          have := nst_f0 hw2 hf
          exact ⟨this.2.2.1, this.2.2.2.1⟩
        have hLL := hL hg.1
        have hvv : v = tV U n (Re s) := by
          rw [hv]
          unfold rvl
          rw [if_neg hno, if_pos hg.2]
        have hlt : tV U n (Re s) < L := of_decide_eq_true hg.2
        refine ⟨fun q => ?_, fun q => ?_⟩
        · have q := (hsm.mp q).2.1
          rw [hvv] at q
          rw [h3, show (fun v => decide (v < L)) (tV U n (Re s2)) = true from decide_eq_true (by omega), nst_good hw2 hk, show (decide (tV U n (Re s2) < L1) && !decide (tV U n (Re s2) = tV U n (Re s))) = false by rw [q]; simp, nst_bad hw2 hk]
          unfold rnt
          rw [if_pos hf, if_pos (show Rf (false, tE U n (Re s2), Rf s2, Rp s2) = 0 from hf)]
          rfl
        · have q : ¬ tV U n (Re s2) = tV U n (Re s) := fun e => q (hsm.mpr ⟨hk, e.trans hvv.symm, hab.trans hg.2⟩)
          rw [h3]
          refine nst_eq rfl (fun _ _ _ => ?_)
          rw [← hLL]
          simp [q]
      · have e : ∀ g g', nst U n g s2 = nst U n g' s2 := fun g g' => nst_eq rfl (fun _ _ f => absurd f hf)
        refine ⟨fun _ => ?_, fun _ => ?_⟩
        · have : ¬ Rf s3 = 0 := by
            rw [h3, nst_n hw2 hk, if_pos (Or.inr hf)]
            exact hf
          rw [rnt_f this, h3]
          exact e _ _
        · rw [h3]
          exact e _ _
  · refine ⟨fun q => absurd (hsm.mp q).1 hk, fun _ => ?_⟩
    rw [h3, nst_w (Or.inr hk), nst_w (Or.inr hk)]
section
variable {Γ : ex_G} {σ : ex_S} {x q a p y : Nat} {S : Sch} {T : Tol} {P : Pln} {g A : Nat → Int32}
variable {U : Nat → Nat} {n : Nat} {A0 : Nat → Int32} {s : Rs} {ab : Bool}
theorem m_alone_ok (m0 : σ.2 y = some (.inr (.inr (10, mo y g)))) (m_all : σ.2 (y + 1) = some (.inl (0, 4500, A))) {rd : Nat → Int32} (m_read : σ.2 (y + 3) = some (.inl (0, 120, rd))) {l : Nat} (hl : l < 16) (hp : rd (61 + l) = -1 ∨ ∃ q, q < 16 ∧ rd (61 + l) = nI q) : RetX Γ m_M_alone [.ref y, .int (nI l)] σ (y + 3) (y + 4) none (fun τ => τ.2 (y + 3) = some (.inl (0, 120, alF rd l))) := by
  unfold RetX
  generalize hQ : ((fun (r0 : Option Value) (τ : ex_S) => r0 = none ∧ frm σ τ (y + 3) (y + 4) ∧ (fun τ : ex_S => τ.2 (y + 3) = some (.inl (0, 120, alF rd l))) τ)) = Q
  refine Ret.start pm_178 rfl ?_
  have fr : frm σ σ (y + 3) (y + 4) := frm.rf
  have m_has : σ.2 (y + 2) = σ.2 (y + 2) := rfl
  refine Ev.aload_n rfl rfl ?_
  refine Ev.getf rfl rfl m0 rfl ?_
  refine Ev.bipush (v := 61) rfl (by decide) ?_
  refine Ev.iload_n rfl rfl ?_
  refine Ev.iadd rfl ?_
  refine Ev.ialdN (k := 61 + l) rfl m_read (nq_add (a := 61) (b := l) (rfl : (61 : Int32) = nI 61) rfl) ⟨(by omega), by decide⟩ ?_
  refine Ev.istore_n rfl rfl rfl ?_
  refine Ev.iload_n rfl rfl ?_
  refine Ev.zlt (tgt := 24) rfl (by decide) (fun c11 => ?_) (fun c11 => ?_)
  · skip
    refine Ev.aload_n rfl rfl ?_
    refine Ev.getf rfl rfl m0 rfl ?_
    refine Ev.bipush (v := 61) rfl (by decide) ?_
    refine Ev.iload_n rfl rfl ?_
    refine Ev.iadd rfl ?_
    refine Ev.iconst (v := (-1)) rfl (by decide) ?_
    refine Ev.iastE (k := 61 + l) rfl m_read (nq_add (a := 61) (b := l) (rfl : (61 : Int32) = nI 61) rfl) ⟨(by omega), by decide⟩ (fun τ1 f1 m_read => ?_)
    have m0 := frm.cell f1 m0 (by omega)
    have m_all := frm.cell f1 m_all (by omega)
    have m_has := frm.cell f1 m_has (by omega)
    have fr := fr.step f1 (by omega) (by omega)
    refine Ev.ret rfl rfl (Nat.le_refl _) (Nat.le_refl _) ?_
    rw [← hQ]
    refine ⟨rfl, fr, ?_⟩
    have hm1 : rd (61 + l) = -1 := by
      rcases hp with h | ⟨q, hq1, hq2⟩
      · exact h
      · rw [hq2] at c11
        exact absurd c11 (nI_pos (by omega))
    show τ1.2 (y + 3) = some (.inl (0, 120, alF rd l))
    rw [alF_0 hm1]
    exact m_read
  · skip
    obtain ⟨q, hq1, hq2⟩ := hp.resolve_left (fun h => c11 (by rw [h]; decide))
    rw [hq2]
    refine Ev.aload_n rfl rfl ?_
    refine Ev.getf rfl rfl m0 rfl ?_
    refine Ev.bipush (v := 61) rfl (by decide) ?_
    refine Ev.iload_n rfl rfl ?_
    refine Ev.iadd rfl ?_
    refine Ev.iconst (v := (-1)) rfl (by decide) ?_
    refine Ev.iastE (k := 61 + q) rfl m_read (nq_add (a := 61) (b := q) (rfl : (61 : Int32) = nI 61) rfl) ⟨(by omega), by decide⟩ (fun τ2 f1 m_read => ?_)
    have m0 := frm.cell f1 m0 (by omega)
    have m_all := frm.cell f1 m_all (by omega)
    have m_has := frm.cell f1 m_has (by omega)
    have fr := fr.step f1 (by omega) (by omega)
    refine Ev.aload_n rfl rfl ?_
    refine Ev.getf rfl rfl m0 rfl ?_
    refine Ev.bipush (v := 61) rfl (by decide) ?_
    refine Ev.iload_n rfl rfl ?_
    refine Ev.iadd rfl ?_
    refine Ev.iconst (v := (-1)) rfl (by decide) ?_
    refine Ev.iastE (k := 61 + l) rfl m_read (nq_add (a := 61) (b := l) (rfl : (61 : Int32) = nI 61) rfl) ⟨(by omega), by decide⟩ (fun τ3 f1 m_read => ?_)
    have m0 := frm.cell f1 m0 (by omega)
    have m_all := frm.cell f1 m_all (by omega)
    have m_has := frm.cell f1 m_has (by omega)
    have fr := fr.step f1 (by omega) (by omega)
    refine Ev.ret rfl rfl (Nat.le_refl _) (Nat.le_refl _) ?_
    rw [← hQ]
    refine ⟨rfl, fr, ?_⟩
    show τ3.2 (y + 3) = some (.inl (0, 120, alF rd l))
    rw [alF_n hq2 hq1]
    exact m_read
theorem m_cplL_ok (m0 : σ.2 y = some (.inr (.inr (10, mo y g)))) (m_all : σ.2 (y + 1) = some (.inl (0, 4500, A))) {rd : Nat → Int32} (m_read : σ.2 (y + 3) = some (.inl (0, 120, rd))) (ht : txt U n) (hA0 : ∀ p, p < n → A0 (10 + p) = nI (U p)) (hst : MSt U n A0 A g s true) (hok : Rok U n s) (hwS : wS S) {b : Nat} (hb : b ≤ 600) (hSF : SF b rd) (hrd : Rf s = 0 → mS rd 0 S) (hw : Rw s = false) : RetX Γ m_M_coupleLine [.ref y] σ y (y + 4) none (fun τ => ∃ (g1 A1 rd1 : Nat → Int32) (ab1 : Bool), τ.2 y = some (.inr (.inr (10, mo y g1))) ∧ τ.2 (y + 1) = some (.inl (0, 4500, A1)) ∧ τ.2 (y + 3) = some (.inl (0, 120, rd1)) ∧ τ.2 (y + 2) = σ.2 (y + 2) ∧ MSt U n A0 A1 g1 (chn U n 1 S.1 s 2) ab1 ∧ SF (b + 1) rd1 ∧ (Rw (chn U n 1 S.1 s 2) = false → Rf (chn U n 1 S.1 s 2) = 0 → mS rd1 0 (LnF 1 (nus U n 1 S.1 s) S))) := by
  have hn6 := ht.1
  have hn16 := hwS.1
  have hn5 := hwS.2.1
  have h600 := tS0_le ht hok.1
  obtain ⟨⟨L, hL, hLb⟩, ⟨tc, htc, htb⟩, hpt, ⟨ls, hls, hls1, hls2⟩⟩ := id hSF
  unfold RetX
  have hLS : Rf s = 0 → L = S.1 := fun f => nI_injL (by omega) (by omega) (hL.symm.trans (hrd f).1)
  generalize hQ : ((fun (r0 : Option Value) (τ : ex_S) => r0 = none ∧ frm σ τ y (y + 4) ∧ (fun τ : ex_S => ∃ (g1 A1 rd1 : Nat → Int32) (ab1 : Bool), τ.2 y = some (.inr (.inr (10, mo y g1))) ∧ τ.2 (y + 1) = some (.inl (0, 4500, A1)) ∧ τ.2 (y + 3) = some (.inl (0, 120, rd1)) ∧ τ.2 (y + 2) = σ.2 (y + 2) ∧ MSt U n A0 A1 g1 (chn U n 1 S.1 s 2) ab1 ∧ SF (b + 1) rd1 ∧ (Rw (chn U n 1 S.1 s 2) = false → Rf (chn U n 1 S.1 s 2) = 0 → mS rd1 0 (LnF 1 (nus U n 1 S.1 s) S))) τ)) = Q
  refine Ret.start pm_179 rfl ?_
  have fr : frm σ σ y (y + 4) := frm.rf
  have m_has : σ.2 (y + 2) = σ.2 (y + 2) := rfl
  refine Ev.aload_n rfl rfl ?_
  refine Ev.iconst (v := 0) rfl (by decide) ?_
  refine Ev.aload_n rfl rfl ?_
  refine Ev.getf rfl rfl m0 rfl ?_
  refine Ev.iconst (v := 0) rfl (by decide) ?_
  refine Ev.ialdN (k := 0) rfl m_read (rfl : (0 : Int32) = nI 0) ⟨(by omega), by decide⟩ ?_
  rw [show rd 0 = nI L from hL]
  refine Ev.iconst (v := 1) rfl (by decide) ?_
  refine Ev.isub rfl ?_
  refine Ev.xV2 rfl rfl m0 rfl rfl (by decide) ⟨(Nat.le_refl _), (Nat.le_refl _)⟩ (m_numb_ok m0 m_all ht hA0 hst hok (lo := 0) (G := fun v => decide (v < L)) (K_in_L (by omega))) (fun τ901 f9 q9 => ?_)
  obtain ⟨g901, A901, m0, m_all, hst⟩ := q9
  have m_read := frm.cell f9 m_read (by omega)
  have m_has := frm.cell f9 m_has (by omega)
  have fr := fr.step f9 (by omega) (by omega)
  obtain ⟨s2, hs2⟩ : ∃ q, q = nst U n ((fun v => decide (v < L)) (tV U n (Re s))) s := ⟨_, rfl⟩
  obtain ⟨ab2, hab2⟩ : ∃ q, q = rab U n (fun v => decide (v < L)) true s := ⟨_, rfl⟩
  obtain ⟨v2, hv2⟩ : ∃ q, q = rvl U n 0 (fun v => decide (v < L)) s := ⟨_, rfl⟩
  rw [← hs2, ← hab2] at hst
  rw [← hv2]
  have hok : Rok U n s2 := by
    rw [hs2]
    exact nst_ok ht hok
  refine Ev.istore_n rfl rfl rfl ?_
  refine Ev.aload_n rfl rfl ?_
  refine Ev.getf rfl rfl m0 rfl ?_
  rw [hst.2.2.2.1.2.1]
  refine Ev.istore_n rfl rfl rfl ?_
  refine Ev.aload_n rfl rfl ?_
  refine Ev.getf rfl rfl m0 rfl ?_
  rw [hst.2.2.2.1.2.2.1]
  refine Ev.iconst (v := 1) rfl (by decide) ?_
  refine Ev.jne (tgt := 46) rfl (by decide) (fun c24 => ?_) (fun c24 => ?_)
  · skip
    refine Ev.iconst (v := 0) rfl (by decide) ?_
    have hsm : ¬ (tK U n (Re s2) = 1 ∧ tV U n (Re s2) = v2 ∧ ab2 = true) := fun h => c24 (congrArg nI h.1)
    refine Ev.istore_n rfl rfl rfl ?_
    refine Ev.aload_n rfl rfl ?_
    refine Ev.iconst (v := 0) rfl (by decide) ?_
    refine Ev.aload_n rfl rfl ?_
    refine Ev.getf rfl rfl m0 rfl ?_
    refine Ev.iconst (v := 0) rfl (by decide) ?_
    refine Ev.ialdN (k := 0) rfl m_read (rfl : (0 : Int32) = nI 0) ⟨(by omega), by decide⟩ ?_
    rw [show rd 0 = nI L from hL]
    refine Ev.iconst (v := 1) rfl (by decide) ?_
    refine Ev.isub rfl ?_
    have hok2 := hok
    have hr2 : v2 ≤ L := by rw [hv2]; exact rvl_L
    refine Ev.xV2 rfl rfl m0 rfl rfl (by decide) ⟨(Nat.le_refl _), (Nat.le_refl _)⟩ (m_numb_ok m0 m_all ht hA0 hst hok (lo := 0) (G := fun v => decide (v < L)) (K_in_L (by omega))) (fun τ902 f9 q9 => ?_)
    obtain ⟨g902, A902, m0, m_all, hst⟩ := q9
    have m_read := frm.cell f9 m_read (by omega)
    have m_has := frm.cell f9 m_has (by omega)
    have fr := fr.step f9 (by omega) (by omega)
    obtain ⟨s3, hs3⟩ : ∃ q, q = nst U n ((fun v => decide (v < L)) (tV U n (Re s2))) s2 := ⟨_, rfl⟩
    obtain ⟨ab3, hab3⟩ : ∃ q, q = rab U n (fun v => decide (v < L)) ab2 s2 := ⟨_, rfl⟩
    obtain ⟨v3, hv3⟩ : ∃ q, q = rvl U n 0 (fun v => decide (v < L)) s2 := ⟨_, rfl⟩
    rw [← hs3, ← hab3] at hst
    rw [← hv3]
    have hok : Rok U n s3 := by
      rw [hs3]
      exact nst_ok ht hok
    have hr3 : v3 ≤ L := by rw [hv3]; exact rvl_L
    refine Ev.istore rfl rfl rfl ?_
    refine Ev.iload_n rfl rfl ?_
    refine Ev.zeq (tgt := 73) rfl (by decide) (fun c64 => ?_) (fun c64 => absurd (by decide) c64)
    refine Ev.aload_n rfl rfl ?_
    refine Ev.getf rfl rfl m0 rfl ?_
    rw [hst.2.2.2.2.2.1]
    refine Ev.zne (tgt := 104) rfl (by decide) (fun c77 => ?_) (fun c77 => ?_)
    · skip
      refine Ev.ret rfl rfl (Nat.le_refl _) (Nat.le_refl _) ?_
      have hcc := cpl_chn (L1 := S.1) hw (fun f => hLS f) hs2 hs3 hv2 hab2 (sm := (tK U n (Re s2) = 1 ∧ tV U n (Re s2) = v2 ∧ ab2 = true)) Iff.rfl
      have hch : chn U n 1 S.1 s 2 = s3 := hcc.2 hsm
      rw [← hQ, hch]
      refine ⟨rfl, fr, _, _, _, _, m0, m_all, m_read, m_has, hst, ?_, ?_⟩
      · exact hSF.mono (Nat.le_succ b)
      · intro hw9 hf9
        exfalso
        have hw8 := hw9
        rw [hs3] at hw9 hf9
        obtain ⟨w2, k2, f2, g2, -⟩ := nst_f0 hw9 hf9
        have q2 := f2
        have r2 := w2
        rw [hs2] at q2 r2
        obtain ⟨w1, k1, f1, g1, -⟩ := nst_f0 r2 q2
        have hLs := hLS f1
        have l1 : tV U n (Re s) < L := of_decide_eq_true g1
        have l2 : tV U n (Re s2) < L := of_decide_eq_true g2
        have u2 : v2 = tV U n (Re s) := by rw [hv2, rvl_ok w1 k1 g1]
        have u3 : v3 = tV U n (Re s2) := by rw [hv3, rvl_ok w2 k2 g2]
        have hb9 := b01 c77
        rw [hw8] at hb9
        cases hb9
    · skip
      refine Ev.aload_n rfl rfl ?_
      refine Ev.getf rfl rfl m0 rfl ?_
      rw [hst.2.2.2.2.2.2]
      refine Ev.zeq (tgt := 104) rfl (by decide) (fun c84 => ?_) (fun c84 => ?_)
      · skip
        refine Ev.ret rfl rfl (Nat.le_refl _) (Nat.le_refl _) ?_
        have hcc := cpl_chn (L1 := S.1) hw (fun f => hLS f) hs2 hs3 hv2 hab2 (sm := (tK U n (Re s2) = 1 ∧ tV U n (Re s2) = v2 ∧ ab2 = true)) Iff.rfl
        have hch : chn U n 1 S.1 s 2 = s3 := hcc.2 hsm
        rw [← hQ, hch]
        refine ⟨rfl, fr, _, _, _, _, m0, m_all, m_read, m_has, hst, ?_, ?_⟩
        · exact hSF.mono (Nat.le_succ b)
        · intro hw9 hf9
          exfalso
          have hw8 := hw9
          rw [hs3] at hw9 hf9
          obtain ⟨w2, k2, f2, g2, -⟩ := nst_f0 hw9 hf9
          have q2 := f2
          have r2 := w2
          rw [hs2] at q2 r2
          obtain ⟨w1, k1, f1, g1, -⟩ := nst_f0 r2 q2
          have hLs := hLS f1
          have l1 : tV U n (Re s) < L := of_decide_eq_true g1
          have l2 : tV U n (Re s2) < L := of_decide_eq_true g2
          have u2 : v2 = tV U n (Re s) := by rw [hv2, rvl_ok w1 k1 g1]
          have u3 : v3 = tV U n (Re s2) := by rw [hv3, rvl_ok w2 k2 g2]
          have hb9 := b00 c84
          rw [hab3, rab_ok w2 k2 g2, hab2, rab_ok w1 k1 g1] at hb9
          cases hb9
      · skip
        refine Ev.iload_n rfl rfl ?_
        refine Ev.zne (tgt := 104) rfl (by decide) (fun c88 => absurd (by decide) c88) (fun c88 => ?_)
        refine Ev.iload_n rfl rfl ?_
        refine Ev.bipush (v := 15) rfl (by decide) ?_
        refine Ev.jgt (tgt := 104) rfl (by decide) (fun c94 => ?_) (fun c94 => ?_)
        · skip
          refine Ev.ret rfl rfl (Nat.le_refl _) (Nat.le_refl _) ?_
          have hcc := cpl_chn (L1 := S.1) hw (fun f => hLS f) hs2 hs3 hv2 hab2 (sm := (tK U n (Re s2) = 1 ∧ tV U n (Re s2) = v2 ∧ ab2 = true)) Iff.rfl
          have hch : chn U n 1 S.1 s 2 = s3 := hcc.2 hsm
          rw [← hQ, hch]
          refine ⟨rfl, fr, _, _, _, _, m0, m_all, m_read, m_has, hst, ?_, ?_⟩
          · exact hSF.mono (Nat.le_succ b)
          · intro hw9 hf9
            exfalso
            have hw8 := hw9
            rw [hs3] at hw9 hf9
            obtain ⟨w2, k2, f2, g2, -⟩ := nst_f0 hw9 hf9
            have q2 := f2
            have r2 := w2
            rw [hs2] at q2 r2
            obtain ⟨w1, k1, f1, g1, -⟩ := nst_f0 r2 q2
            have hLs := hLS f1
            have l1 : tV U n (Re s) < L := of_decide_eq_true g1
            have l2 : tV U n (Re s2) < L := of_decide_eq_true g2
            have u2 : v2 = tV U n (Re s) := by rw [hv2, rvl_ok w1 k1 g1]
            have u3 : v3 = tV U n (Re s2) := by rw [hv3, rvl_ok w2 k2 g2]
            exact absurd c94 (nI_nlt (a := 15) (b := v2) (by omega) (by decide))
        · skip
          have h15 : v2 ≤ 15 := Nat.le_of_not_lt (fun h => c94 (nI_lt (a := 15) h (by omega)))
          refine Ev.iload rfl rfl ?_
          refine Ev.bipush (v := 15) rfl (by decide) ?_
          refine Ev.jle (tgt := 105) rfl (by decide) (fun c101 => ?_) (fun c101 => ?_)
          · skip
            have h15b : v3 ≤ 15 := Nat.le_of_not_lt (fun h => c101 (nI_lt (a := 15) h (by omega)))
            refine Ev.aload_n rfl rfl ?_
            refine Ev.iload_n rfl rfl ?_
            refine Ev.xV1u rfl rfl m0 rfl rfl (by decide) ⟨(Nat.le_refl _), (Nat.le_refl _)⟩ (m_alone_ok (l := v2) m0 m_all m_read (by omega) (hSF.2.2.1 v2 (by omega))) (fun τ907 f9 q9 => ?_)
            have m0 := frm.cell f9 m0 (by omega)
            have m_all := frm.cell f9 m_all (by omega)
            have m_has := frm.cell f9 m_has (by omega)
            have m_read := q9
            have fr := fr.step f9 (by omega) (by omega)
            refine Ev.aload_n rfl rfl ?_
            refine Ev.iload rfl rfl ?_
            refine Ev.xV1u rfl rfl m0 rfl rfl (by decide) ⟨(Nat.le_refl _), (Nat.le_refl _)⟩ (m_alone_ok (l := v3) m0 m_all m_read (by omega) ((hSF.alone (l := v2) (by omega)).2.2.1 v3 (by omega))) (fun τ913 f9 q9 => ?_)
            have m0 := frm.cell f9 m0 (by omega)
            have m_all := frm.cell f9 m_all (by omega)
            have m_has := frm.cell f9 m_has (by omega)
            have m_read := q9
            have fr := fr.step f9 (by omega) (by omega)
            refine Ev.aload_n rfl rfl ?_
            refine Ev.getf rfl rfl m0 rfl ?_
            refine Ev.bipush (v := 61) rfl (by decide) ?_
            refine Ev.iload_n rfl rfl ?_
            refine Ev.iadd rfl ?_
            refine Ev.iload rfl rfl ?_
            refine Ev.iastE (k := 61 + v2) rfl m_read (nq_add (a := 61) (b := v2) (rfl : (61 : Int32) = nI 61) rfl) ⟨(by omega), by decide⟩ (fun τ1 f1 m_read => ?_)
            have m0 := frm.cell f1 m0 (by omega)
            have m_all := frm.cell f1 m_all (by omega)
            have m_has := frm.cell f1 m_has (by omega)
            have fr := fr.step f1 (by omega) (by omega)
            refine Ev.aload_n rfl rfl ?_
            refine Ev.getf rfl rfl m0 rfl ?_
            refine Ev.bipush (v := 61) rfl (by decide) ?_
            refine Ev.iload rfl rfl ?_
            refine Ev.iadd rfl ?_
            refine Ev.iload_n rfl rfl ?_
            refine Ev.iastE (k := 61 + v3) rfl m_read (nq_add (a := 61) (b := v3) (rfl : (61 : Int32) = nI 61) rfl) ⟨(by omega), by decide⟩ (fun τ2 f1 m_read => ?_)
            have m0 := frm.cell f1 m0 (by omega)
            have m_all := frm.cell f1 m_all (by omega)
            have m_has := frm.cell f1 m_has (by omega)
            have fr := fr.step f1 (by omega) (by omega)
            refine Ev.ret rfl rfl (Nat.le_refl _) (Nat.le_refl _) ?_
            have hcc := cpl_chn (L1 := S.1) hw (fun f => hLS f) hs2 hs3 hv2 hab2 (sm := (tK U n (Re s2) = 1 ∧ tV U n (Re s2) = v2 ∧ ab2 = true)) Iff.rfl
            have hch : chn U n 1 S.1 s 2 = s3 := hcc.2 hsm
            rw [← hQ, hch]
            refine ⟨rfl, fr, _, _, _, _, m0, m_all, m_read, m_has, hst, ?_, ?_⟩
            · exact (hSF.mono (Nat.le_succ b)).cpl (by omega) (by omega)
            · intro hw9 hf9
              rw [hs3] at hw9 hf9
              obtain ⟨w2, k2, f2, g2, -⟩ := nst_f0 hw9 hf9
              have q2 := f2
              have r2 := w2
              rw [hs2] at q2 r2
              obtain ⟨w1, k1, f1, g1, -⟩ := nst_f0 r2 q2
              have hm := hrd f1
              have hLs := hLS f1
              have u2 : v2 = tV U n (Re s) := by rw [hv2, rvl_ok w1 k1 g1]
              have u3 : v3 = tV U n (Re s2) := by rw [hv3, rvl_ok w2 k2 g2]
              have l1 : tV U n (Re s) < L := of_decide_eq_true g1
              have l2 : tV U n (Re s2) < L := of_decide_eq_true g2
              have hne : v3 ≠ v2 := fun e => hsm ⟨k2, u3.symm.trans e, by rw [hab2]; exact (rab_ok w1 k1 g1)⟩
              have e1 : chn U n 1 S.1 s 1 = s2 := by
                rw [hs2]
                refine nst_eq rfl (fun _ _ f => ?_)
                show (if (1 : Nat) = 1 then decide (tV U n (Re s) < S.1) && (decide (0 = 0) || !decide (tV U n (Re s) = tV U n (Re s))) else _) = decide (tV U n (Re s) < L)
                rw [if_pos rfl, hLs]
                simp
              have n0 : nus U n 1 S.1 s 0 = v2 := u2.symm
              have n1 : nus U n 1 S.1 s 1 = v3 := by unfold nus; rw [e1, u3]
              show mS _ 0 (S_ar S 3 (cplF S.1 (S.2.2 3) (nus U n 1 S.1 s 0) (nus U n 1 S.1 s 1)))
              rw [n0, n1]
              exact mS_cpl hm hn16 hn5 hSF (by omega) (by omega) hne
          · skip
            refine Ev.ret rfl rfl (Nat.le_refl _) (Nat.le_refl _) ?_
            have hcc := cpl_chn (L1 := S.1) hw (fun f => hLS f) hs2 hs3 hv2 hab2 (sm := (tK U n (Re s2) = 1 ∧ tV U n (Re s2) = v2 ∧ ab2 = true)) Iff.rfl
            have hch : chn U n 1 S.1 s 2 = s3 := hcc.2 hsm
            rw [← hQ, hch]
            refine ⟨rfl, fr, _, _, _, _, m0, m_all, m_read, m_has, hst, ?_, ?_⟩
            · exact hSF.mono (Nat.le_succ b)
            · intro hw9 hf9
              exfalso
              have hw8 := hw9
              rw [hs3] at hw9 hf9
              obtain ⟨w2, k2, f2, g2, -⟩ := nst_f0 hw9 hf9
              have q2 := f2
              have r2 := w2
              rw [hs2] at q2 r2
              obtain ⟨w1, k1, f1, g1, -⟩ := nst_f0 r2 q2
              have hLs := hLS f1
              have l1 : tV U n (Re s) < L := of_decide_eq_true g1
              have l2 : tV U n (Re s2) < L := of_decide_eq_true g2
              have u2 : v2 = tV U n (Re s) := by rw [hv2, rvl_ok w1 k1 g1]
              have u3 : v3 = tV U n (Re s2) := by rw [hv3, rvl_ok w2 k2 g2]
              exact absurd c101 (nI_nlt (a := 15) (b := v3) (by omega) (by decide))
  · skip
    have hk1 : tK U n (Re s2) = 1 := nI_injL (b := 1) (by have := tK_le (U := U) (n := n) (e := Re s2); omega) (by decide) c24
    refine Ev.aload_n rfl rfl ?_
    refine Ev.getf rfl rfl m0 rfl ?_
    rw [hst.2.2.2.1.2.2.2.1 hk1]
    refine Ev.iload_n rfl rfl ?_
    refine Ev.jne (tgt := 46) rfl (by decide) (fun c32 => ?_) (fun c32 => ?_)
    · skip
      refine Ev.iconst (v := 0) rfl (by decide) ?_
      have hsm : ¬ (tK U n (Re s2) = 1 ∧ tV U n (Re s2) = v2 ∧ ab2 = true) := fun h => c32 (congrArg nI h.2.1)
      refine Ev.istore_n rfl rfl rfl ?_
      refine Ev.aload_n rfl rfl ?_
      refine Ev.iconst (v := 0) rfl (by decide) ?_
      refine Ev.aload_n rfl rfl ?_
      refine Ev.getf rfl rfl m0 rfl ?_
      refine Ev.iconst (v := 0) rfl (by decide) ?_
      refine Ev.ialdN (k := 0) rfl m_read (rfl : (0 : Int32) = nI 0) ⟨(by omega), by decide⟩ ?_
      rw [show rd 0 = nI L from hL]
      refine Ev.iconst (v := 1) rfl (by decide) ?_
      refine Ev.isub rfl ?_
      have hok2 := hok
      have hr2 : v2 ≤ L := by rw [hv2]; exact rvl_L
      refine Ev.xV2 rfl rfl m0 rfl rfl (by decide) ⟨(Nat.le_refl _), (Nat.le_refl _)⟩ (m_numb_ok m0 m_all ht hA0 hst hok (lo := 0) (G := fun v => decide (v < L)) (K_in_L (by omega))) (fun τ902 f9 q9 => ?_)
      obtain ⟨g902, A902, m0, m_all, hst⟩ := q9
      have m_read := frm.cell f9 m_read (by omega)
      have m_has := frm.cell f9 m_has (by omega)
      have fr := fr.step f9 (by omega) (by omega)
      obtain ⟨s3, hs3⟩ : ∃ q, q = nst U n ((fun v => decide (v < L)) (tV U n (Re s2))) s2 := ⟨_, rfl⟩
      obtain ⟨ab3, hab3⟩ : ∃ q, q = rab U n (fun v => decide (v < L)) ab2 s2 := ⟨_, rfl⟩
      obtain ⟨v3, hv3⟩ : ∃ q, q = rvl U n 0 (fun v => decide (v < L)) s2 := ⟨_, rfl⟩
      rw [← hs3, ← hab3] at hst
      rw [← hv3]
      have hok : Rok U n s3 := by
        rw [hs3]
        exact nst_ok ht hok
      have hr3 : v3 ≤ L := by rw [hv3]; exact rvl_L
      refine Ev.istore rfl rfl rfl ?_
      refine Ev.iload_n rfl rfl ?_
      refine Ev.zeq (tgt := 73) rfl (by decide) (fun c64 => ?_) (fun c64 => absurd (by decide) c64)
      refine Ev.aload_n rfl rfl ?_
      refine Ev.getf rfl rfl m0 rfl ?_
      rw [hst.2.2.2.2.2.1]
      refine Ev.zne (tgt := 104) rfl (by decide) (fun c77 => ?_) (fun c77 => ?_)
      · skip
        refine Ev.ret rfl rfl (Nat.le_refl _) (Nat.le_refl _) ?_
        have hcc := cpl_chn (L1 := S.1) hw (fun f => hLS f) hs2 hs3 hv2 hab2 (sm := (tK U n (Re s2) = 1 ∧ tV U n (Re s2) = v2 ∧ ab2 = true)) Iff.rfl
        have hch : chn U n 1 S.1 s 2 = s3 := hcc.2 hsm
        rw [← hQ, hch]
        refine ⟨rfl, fr, _, _, _, _, m0, m_all, m_read, m_has, hst, ?_, ?_⟩
        · exact hSF.mono (Nat.le_succ b)
        · intro hw9 hf9
          exfalso
          have hw8 := hw9
          rw [hs3] at hw9 hf9
          obtain ⟨w2, k2, f2, g2, -⟩ := nst_f0 hw9 hf9
          have q2 := f2
          have r2 := w2
          rw [hs2] at q2 r2
          obtain ⟨w1, k1, f1, g1, -⟩ := nst_f0 r2 q2
          have hLs := hLS f1
          have l1 : tV U n (Re s) < L := of_decide_eq_true g1
          have l2 : tV U n (Re s2) < L := of_decide_eq_true g2
          have u2 : v2 = tV U n (Re s) := by rw [hv2, rvl_ok w1 k1 g1]
          have u3 : v3 = tV U n (Re s2) := by rw [hv3, rvl_ok w2 k2 g2]
          have hb9 := b01 c77
          rw [hw8] at hb9
          cases hb9
      · skip
        refine Ev.aload_n rfl rfl ?_
        refine Ev.getf rfl rfl m0 rfl ?_
        rw [hst.2.2.2.2.2.2]
        refine Ev.zeq (tgt := 104) rfl (by decide) (fun c84 => ?_) (fun c84 => ?_)
        · skip
          refine Ev.ret rfl rfl (Nat.le_refl _) (Nat.le_refl _) ?_
          have hcc := cpl_chn (L1 := S.1) hw (fun f => hLS f) hs2 hs3 hv2 hab2 (sm := (tK U n (Re s2) = 1 ∧ tV U n (Re s2) = v2 ∧ ab2 = true)) Iff.rfl
          have hch : chn U n 1 S.1 s 2 = s3 := hcc.2 hsm
          rw [← hQ, hch]
          refine ⟨rfl, fr, _, _, _, _, m0, m_all, m_read, m_has, hst, ?_, ?_⟩
          · exact hSF.mono (Nat.le_succ b)
          · intro hw9 hf9
            exfalso
            have hw8 := hw9
            rw [hs3] at hw9 hf9
            obtain ⟨w2, k2, f2, g2, -⟩ := nst_f0 hw9 hf9
            have q2 := f2
            have r2 := w2
            rw [hs2] at q2 r2
            obtain ⟨w1, k1, f1, g1, -⟩ := nst_f0 r2 q2
            have hLs := hLS f1
            have l1 : tV U n (Re s) < L := of_decide_eq_true g1
            have l2 : tV U n (Re s2) < L := of_decide_eq_true g2
            have u2 : v2 = tV U n (Re s) := by rw [hv2, rvl_ok w1 k1 g1]
            have u3 : v3 = tV U n (Re s2) := by rw [hv3, rvl_ok w2 k2 g2]
            have hb9 := b00 c84
            rw [hab3, rab_ok w2 k2 g2, hab2, rab_ok w1 k1 g1] at hb9
            cases hb9
        · skip
          refine Ev.iload_n rfl rfl ?_
          refine Ev.zne (tgt := 104) rfl (by decide) (fun c88 => absurd (by decide) c88) (fun c88 => ?_)
          refine Ev.iload_n rfl rfl ?_
          refine Ev.bipush (v := 15) rfl (by decide) ?_
          refine Ev.jgt (tgt := 104) rfl (by decide) (fun c94 => ?_) (fun c94 => ?_)
          · skip
            refine Ev.ret rfl rfl (Nat.le_refl _) (Nat.le_refl _) ?_
            have hcc := cpl_chn (L1 := S.1) hw (fun f => hLS f) hs2 hs3 hv2 hab2 (sm := (tK U n (Re s2) = 1 ∧ tV U n (Re s2) = v2 ∧ ab2 = true)) Iff.rfl
            have hch : chn U n 1 S.1 s 2 = s3 := hcc.2 hsm
            rw [← hQ, hch]
            refine ⟨rfl, fr, _, _, _, _, m0, m_all, m_read, m_has, hst, ?_, ?_⟩
            · exact hSF.mono (Nat.le_succ b)
            · intro hw9 hf9
              exfalso
              have hw8 := hw9
              rw [hs3] at hw9 hf9
              obtain ⟨w2, k2, f2, g2, -⟩ := nst_f0 hw9 hf9
              have q2 := f2
              have r2 := w2
              rw [hs2] at q2 r2
              obtain ⟨w1, k1, f1, g1, -⟩ := nst_f0 r2 q2
              have hLs := hLS f1
              have l1 : tV U n (Re s) < L := of_decide_eq_true g1
              have l2 : tV U n (Re s2) < L := of_decide_eq_true g2
              have u2 : v2 = tV U n (Re s) := by rw [hv2, rvl_ok w1 k1 g1]
              have u3 : v3 = tV U n (Re s2) := by rw [hv3, rvl_ok w2 k2 g2]
              exact absurd c94 (nI_nlt (a := 15) (b := v2) (by omega) (by decide))
          · skip
            have h15 : v2 ≤ 15 := Nat.le_of_not_lt (fun h => c94 (nI_lt (a := 15) h (by omega)))
            refine Ev.iload rfl rfl ?_
            refine Ev.bipush (v := 15) rfl (by decide) ?_
            refine Ev.jle (tgt := 105) rfl (by decide) (fun c101 => ?_) (fun c101 => ?_)
            · skip
              have h15b : v3 ≤ 15 := Nat.le_of_not_lt (fun h => c101 (nI_lt (a := 15) h (by omega)))
              refine Ev.aload_n rfl rfl ?_
              refine Ev.iload_n rfl rfl ?_
              refine Ev.xV1u rfl rfl m0 rfl rfl (by decide) ⟨(Nat.le_refl _), (Nat.le_refl _)⟩ (m_alone_ok (l := v2) m0 m_all m_read (by omega) (hSF.2.2.1 v2 (by omega))) (fun τ907 f9 q9 => ?_)
              have m0 := frm.cell f9 m0 (by omega)
              have m_all := frm.cell f9 m_all (by omega)
              have m_has := frm.cell f9 m_has (by omega)
              have m_read := q9
              have fr := fr.step f9 (by omega) (by omega)
              refine Ev.aload_n rfl rfl ?_
              refine Ev.iload rfl rfl ?_
              refine Ev.xV1u rfl rfl m0 rfl rfl (by decide) ⟨(Nat.le_refl _), (Nat.le_refl _)⟩ (m_alone_ok (l := v3) m0 m_all m_read (by omega) ((hSF.alone (l := v2) (by omega)).2.2.1 v3 (by omega))) (fun τ913 f9 q9 => ?_)
              have m0 := frm.cell f9 m0 (by omega)
              have m_all := frm.cell f9 m_all (by omega)
              have m_has := frm.cell f9 m_has (by omega)
              have m_read := q9
              have fr := fr.step f9 (by omega) (by omega)
              refine Ev.aload_n rfl rfl ?_
              refine Ev.getf rfl rfl m0 rfl ?_
              refine Ev.bipush (v := 61) rfl (by decide) ?_
              refine Ev.iload_n rfl rfl ?_
              refine Ev.iadd rfl ?_
              refine Ev.iload rfl rfl ?_
              refine Ev.iastE (k := 61 + v2) rfl m_read (nq_add (a := 61) (b := v2) (rfl : (61 : Int32) = nI 61) rfl) ⟨(by omega), by decide⟩ (fun τ3 f1 m_read => ?_)
              have m0 := frm.cell f1 m0 (by omega)
              have m_all := frm.cell f1 m_all (by omega)
              have m_has := frm.cell f1 m_has (by omega)
              have fr := fr.step f1 (by omega) (by omega)
              refine Ev.aload_n rfl rfl ?_
              refine Ev.getf rfl rfl m0 rfl ?_
              refine Ev.bipush (v := 61) rfl (by decide) ?_
              refine Ev.iload rfl rfl ?_
              refine Ev.iadd rfl ?_
              refine Ev.iload_n rfl rfl ?_
              refine Ev.iastE (k := 61 + v3) rfl m_read (nq_add (a := 61) (b := v3) (rfl : (61 : Int32) = nI 61) rfl) ⟨(by omega), by decide⟩ (fun τ4 f1 m_read => ?_)
              have m0 := frm.cell f1 m0 (by omega)
              have m_all := frm.cell f1 m_all (by omega)
              have m_has := frm.cell f1 m_has (by omega)
              have fr := fr.step f1 (by omega) (by omega)
              refine Ev.ret rfl rfl (Nat.le_refl _) (Nat.le_refl _) ?_
              have hcc := cpl_chn (L1 := S.1) hw (fun f => hLS f) hs2 hs3 hv2 hab2 (sm := (tK U n (Re s2) = 1 ∧ tV U n (Re s2) = v2 ∧ ab2 = true)) Iff.rfl
              have hch : chn U n 1 S.1 s 2 = s3 := hcc.2 hsm
              rw [← hQ, hch]
              refine ⟨rfl, fr, _, _, _, _, m0, m_all, m_read, m_has, hst, ?_, ?_⟩
              · exact (hSF.mono (Nat.le_succ b)).cpl (by omega) (by omega)
              · intro hw9 hf9
                rw [hs3] at hw9 hf9
                obtain ⟨w2, k2, f2, g2, -⟩ := nst_f0 hw9 hf9
                have q2 := f2
                have r2 := w2
                rw [hs2] at q2 r2
                obtain ⟨w1, k1, f1, g1, -⟩ := nst_f0 r2 q2
                have hm := hrd f1
                have hLs := hLS f1
                have u2 : v2 = tV U n (Re s) := by rw [hv2, rvl_ok w1 k1 g1]
                have u3 : v3 = tV U n (Re s2) := by rw [hv3, rvl_ok w2 k2 g2]
                have l1 : tV U n (Re s) < L := of_decide_eq_true g1
                have l2 : tV U n (Re s2) < L := of_decide_eq_true g2
                have hne : v3 ≠ v2 := fun e => hsm ⟨k2, u3.symm.trans e, by rw [hab2]; exact (rab_ok w1 k1 g1)⟩
                have e1 : chn U n 1 S.1 s 1 = s2 := by
                  rw [hs2]
                  refine nst_eq rfl (fun _ _ f => ?_)
                  show (if (1 : Nat) = 1 then decide (tV U n (Re s) < S.1) && (decide (0 = 0) || !decide (tV U n (Re s) = tV U n (Re s))) else _) = decide (tV U n (Re s) < L)
                  rw [if_pos rfl, hLs]
                  simp
                have n0 : nus U n 1 S.1 s 0 = v2 := u2.symm
                have n1 : nus U n 1 S.1 s 1 = v3 := by unfold nus; rw [e1, u3]
                show mS _ 0 (S_ar S 3 (cplF S.1 (S.2.2 3) (nus U n 1 S.1 s 0) (nus U n 1 S.1 s 1)))
                rw [n0, n1]
                exact mS_cpl hm hn16 hn5 hSF (by omega) (by omega) hne
            · skip
              refine Ev.ret rfl rfl (Nat.le_refl _) (Nat.le_refl _) ?_
              have hcc := cpl_chn (L1 := S.1) hw (fun f => hLS f) hs2 hs3 hv2 hab2 (sm := (tK U n (Re s2) = 1 ∧ tV U n (Re s2) = v2 ∧ ab2 = true)) Iff.rfl
              have hch : chn U n 1 S.1 s 2 = s3 := hcc.2 hsm
              rw [← hQ, hch]
              refine ⟨rfl, fr, _, _, _, _, m0, m_all, m_read, m_has, hst, ?_, ?_⟩
              · exact hSF.mono (Nat.le_succ b)
              · intro hw9 hf9
                exfalso
                have hw8 := hw9
                rw [hs3] at hw9 hf9
                obtain ⟨w2, k2, f2, g2, -⟩ := nst_f0 hw9 hf9
                have q2 := f2
                have r2 := w2
                rw [hs2] at q2 r2
                obtain ⟨w1, k1, f1, g1, -⟩ := nst_f0 r2 q2
                have hLs := hLS f1
                have l1 : tV U n (Re s) < L := of_decide_eq_true g1
                have l2 : tV U n (Re s2) < L := of_decide_eq_true g2
                have u2 : v2 = tV U n (Re s) := by rw [hv2, rvl_ok w1 k1 g1]
                have u3 : v3 = tV U n (Re s2) := by rw [hv3, rvl_ok w2 k2 g2]
                exact absurd c101 (nI_nlt (a := 15) (b := v3) (by omega) (by decide))
    · skip
      have hv32 : tV U n (Re s2) = v2 := nI_injL (by have := tV_le ht hok.1 hk1; omega) (by have : v2 ≤ L := by { rw [hv2]; exact rvl_L }; omega) c32
      refine Ev.aload_n rfl rfl ?_
      refine Ev.getf rfl rfl m0 rfl ?_
      rw [hst.2.2.2.2.2.2]
      refine Ev.zeq (tgt := 46) rfl (by decide) (fun c39 => ?_) (fun c39 => ?_)
      · skip
        refine Ev.iconst (v := 0) rfl (by decide) ?_
        have hsm : ¬ (tK U n (Re s2) = 1 ∧ tV U n (Re s2) = v2 ∧ ab2 = true) := fun h => by
          rw [h.2.2] at c39
          exact absurd c39 (by decide)
        refine Ev.istore_n rfl rfl rfl ?_
        refine Ev.aload_n rfl rfl ?_
        refine Ev.iconst (v := 0) rfl (by decide) ?_
        refine Ev.aload_n rfl rfl ?_
        refine Ev.getf rfl rfl m0 rfl ?_
        refine Ev.iconst (v := 0) rfl (by decide) ?_
        refine Ev.ialdN (k := 0) rfl m_read (rfl : (0 : Int32) = nI 0) ⟨(by omega), by decide⟩ ?_
        rw [show rd 0 = nI L from hL]
        refine Ev.iconst (v := 1) rfl (by decide) ?_
        refine Ev.isub rfl ?_
        have hok2 := hok
        have hr2 : v2 ≤ L := by rw [hv2]; exact rvl_L
        refine Ev.xV2 rfl rfl m0 rfl rfl (by decide) ⟨(Nat.le_refl _), (Nat.le_refl _)⟩ (m_numb_ok m0 m_all ht hA0 hst hok (lo := 0) (G := fun v => decide (v < L)) (K_in_L (by omega))) (fun τ902 f9 q9 => ?_)
        obtain ⟨g902, A902, m0, m_all, hst⟩ := q9
        have m_read := frm.cell f9 m_read (by omega)
        have m_has := frm.cell f9 m_has (by omega)
        have fr := fr.step f9 (by omega) (by omega)
        obtain ⟨s3, hs3⟩ : ∃ q, q = nst U n ((fun v => decide (v < L)) (tV U n (Re s2))) s2 := ⟨_, rfl⟩
        obtain ⟨ab3, hab3⟩ : ∃ q, q = rab U n (fun v => decide (v < L)) ab2 s2 := ⟨_, rfl⟩
        obtain ⟨v3, hv3⟩ : ∃ q, q = rvl U n 0 (fun v => decide (v < L)) s2 := ⟨_, rfl⟩
        rw [← hs3, ← hab3] at hst
        rw [← hv3]
        have hok : Rok U n s3 := by
          rw [hs3]
          exact nst_ok ht hok
        have hr3 : v3 ≤ L := by rw [hv3]; exact rvl_L
        refine Ev.istore rfl rfl rfl ?_
        refine Ev.iload_n rfl rfl ?_
        refine Ev.zeq (tgt := 73) rfl (by decide) (fun c64 => ?_) (fun c64 => absurd (by decide) c64)
        refine Ev.aload_n rfl rfl ?_
        refine Ev.getf rfl rfl m0 rfl ?_
        rw [hst.2.2.2.2.2.1]
        refine Ev.zne (tgt := 104) rfl (by decide) (fun c77 => ?_) (fun c77 => ?_)
        · skip
          refine Ev.ret rfl rfl (Nat.le_refl _) (Nat.le_refl _) ?_
          have hcc := cpl_chn (L1 := S.1) hw (fun f => hLS f) hs2 hs3 hv2 hab2 (sm := (tK U n (Re s2) = 1 ∧ tV U n (Re s2) = v2 ∧ ab2 = true)) Iff.rfl
          have hch : chn U n 1 S.1 s 2 = s3 := hcc.2 hsm
          rw [← hQ, hch]
          refine ⟨rfl, fr, _, _, _, _, m0, m_all, m_read, m_has, hst, ?_, ?_⟩
          · exact hSF.mono (Nat.le_succ b)
          · intro hw9 hf9
            exfalso
            have hw8 := hw9
            rw [hs3] at hw9 hf9
            obtain ⟨w2, k2, f2, g2, -⟩ := nst_f0 hw9 hf9
            have q2 := f2
            have r2 := w2
            rw [hs2] at q2 r2
            obtain ⟨w1, k1, f1, g1, -⟩ := nst_f0 r2 q2
            have hLs := hLS f1
            have l1 : tV U n (Re s) < L := of_decide_eq_true g1
            have l2 : tV U n (Re s2) < L := of_decide_eq_true g2
            have u2 : v2 = tV U n (Re s) := by rw [hv2, rvl_ok w1 k1 g1]
            have u3 : v3 = tV U n (Re s2) := by rw [hv3, rvl_ok w2 k2 g2]
            have hb9 := b01 c77
            rw [hw8] at hb9
            cases hb9
        · skip
          refine Ev.aload_n rfl rfl ?_
          refine Ev.getf rfl rfl m0 rfl ?_
          rw [hst.2.2.2.2.2.2]
          refine Ev.zeq (tgt := 104) rfl (by decide) (fun c84 => ?_) (fun c84 => ?_)
          · skip
            refine Ev.ret rfl rfl (Nat.le_refl _) (Nat.le_refl _) ?_
            have hcc := cpl_chn (L1 := S.1) hw (fun f => hLS f) hs2 hs3 hv2 hab2 (sm := (tK U n (Re s2) = 1 ∧ tV U n (Re s2) = v2 ∧ ab2 = true)) Iff.rfl
            have hch : chn U n 1 S.1 s 2 = s3 := hcc.2 hsm
            rw [← hQ, hch]
            refine ⟨rfl, fr, _, _, _, _, m0, m_all, m_read, m_has, hst, ?_, ?_⟩
            · exact hSF.mono (Nat.le_succ b)
            · intro hw9 hf9
              exfalso
              have hw8 := hw9
              rw [hs3] at hw9 hf9
              obtain ⟨w2, k2, f2, g2, -⟩ := nst_f0 hw9 hf9
              have q2 := f2
              have r2 := w2
              rw [hs2] at q2 r2
              obtain ⟨w1, k1, f1, g1, -⟩ := nst_f0 r2 q2
              have hLs := hLS f1
              have l1 : tV U n (Re s) < L := of_decide_eq_true g1
              have l2 : tV U n (Re s2) < L := of_decide_eq_true g2
              have u2 : v2 = tV U n (Re s) := by rw [hv2, rvl_ok w1 k1 g1]
              have u3 : v3 = tV U n (Re s2) := by rw [hv3, rvl_ok w2 k2 g2]
              have hb9 := b00 c84
              rw [hab3, rab_ok w2 k2 g2, hab2, rab_ok w1 k1 g1] at hb9
              cases hb9
          · skip
            refine Ev.iload_n rfl rfl ?_
            refine Ev.zne (tgt := 104) rfl (by decide) (fun c88 => absurd (by decide) c88) (fun c88 => ?_)
            refine Ev.iload_n rfl rfl ?_
            refine Ev.bipush (v := 15) rfl (by decide) ?_
            refine Ev.jgt (tgt := 104) rfl (by decide) (fun c94 => ?_) (fun c94 => ?_)
            · skip
              refine Ev.ret rfl rfl (Nat.le_refl _) (Nat.le_refl _) ?_
              have hcc := cpl_chn (L1 := S.1) hw (fun f => hLS f) hs2 hs3 hv2 hab2 (sm := (tK U n (Re s2) = 1 ∧ tV U n (Re s2) = v2 ∧ ab2 = true)) Iff.rfl
              have hch : chn U n 1 S.1 s 2 = s3 := hcc.2 hsm
              rw [← hQ, hch]
              refine ⟨rfl, fr, _, _, _, _, m0, m_all, m_read, m_has, hst, ?_, ?_⟩
              · exact hSF.mono (Nat.le_succ b)
              · intro hw9 hf9
                exfalso
                have hw8 := hw9
                rw [hs3] at hw9 hf9
                obtain ⟨w2, k2, f2, g2, -⟩ := nst_f0 hw9 hf9
                have q2 := f2
                have r2 := w2
                rw [hs2] at q2 r2
                obtain ⟨w1, k1, f1, g1, -⟩ := nst_f0 r2 q2
                have hLs := hLS f1
                have l1 : tV U n (Re s) < L := of_decide_eq_true g1
                have l2 : tV U n (Re s2) < L := of_decide_eq_true g2
                have u2 : v2 = tV U n (Re s) := by rw [hv2, rvl_ok w1 k1 g1]
                have u3 : v3 = tV U n (Re s2) := by rw [hv3, rvl_ok w2 k2 g2]
                exact absurd c94 (nI_nlt (a := 15) (b := v2) (by omega) (by decide))
            · skip
              have h15 : v2 ≤ 15 := Nat.le_of_not_lt (fun h => c94 (nI_lt (a := 15) h (by omega)))
              refine Ev.iload rfl rfl ?_
              refine Ev.bipush (v := 15) rfl (by decide) ?_
              refine Ev.jle (tgt := 105) rfl (by decide) (fun c101 => ?_) (fun c101 => ?_)
              · skip
                have h15b : v3 ≤ 15 := Nat.le_of_not_lt (fun h => c101 (nI_lt (a := 15) h (by omega)))
                refine Ev.aload_n rfl rfl ?_
                refine Ev.iload_n rfl rfl ?_
                refine Ev.xV1u rfl rfl m0 rfl rfl (by decide) ⟨(Nat.le_refl _), (Nat.le_refl _)⟩ (m_alone_ok (l := v2) m0 m_all m_read (by omega) (hSF.2.2.1 v2 (by omega))) (fun τ907 f9 q9 => ?_)
                have m0 := frm.cell f9 m0 (by omega)
                have m_all := frm.cell f9 m_all (by omega)
                have m_has := frm.cell f9 m_has (by omega)
                have m_read := q9
                have fr := fr.step f9 (by omega) (by omega)
                refine Ev.aload_n rfl rfl ?_
                refine Ev.iload rfl rfl ?_
                refine Ev.xV1u rfl rfl m0 rfl rfl (by decide) ⟨(Nat.le_refl _), (Nat.le_refl _)⟩ (m_alone_ok (l := v3) m0 m_all m_read (by omega) ((hSF.alone (l := v2) (by omega)).2.2.1 v3 (by omega))) (fun τ913 f9 q9 => ?_)
                have m0 := frm.cell f9 m0 (by omega)
                have m_all := frm.cell f9 m_all (by omega)
                have m_has := frm.cell f9 m_has (by omega)
                have m_read := q9
                have fr := fr.step f9 (by omega) (by omega)
                refine Ev.aload_n rfl rfl ?_
                refine Ev.getf rfl rfl m0 rfl ?_
                refine Ev.bipush (v := 61) rfl (by decide) ?_
                refine Ev.iload_n rfl rfl ?_
                refine Ev.iadd rfl ?_
                refine Ev.iload rfl rfl ?_
                refine Ev.iastE (k := 61 + v2) rfl m_read (nq_add (a := 61) (b := v2) (rfl : (61 : Int32) = nI 61) rfl) ⟨(by omega), by decide⟩ (fun τ5 f1 m_read => ?_)
                have m0 := frm.cell f1 m0 (by omega)
                have m_all := frm.cell f1 m_all (by omega)
                have m_has := frm.cell f1 m_has (by omega)
                have fr := fr.step f1 (by omega) (by omega)
                refine Ev.aload_n rfl rfl ?_
                refine Ev.getf rfl rfl m0 rfl ?_
                refine Ev.bipush (v := 61) rfl (by decide) ?_
                refine Ev.iload rfl rfl ?_
                refine Ev.iadd rfl ?_
                refine Ev.iload_n rfl rfl ?_
                refine Ev.iastE (k := 61 + v3) rfl m_read (nq_add (a := 61) (b := v3) (rfl : (61 : Int32) = nI 61) rfl) ⟨(by omega), by decide⟩ (fun τ6 f1 m_read => ?_)
                have m0 := frm.cell f1 m0 (by omega)
                have m_all := frm.cell f1 m_all (by omega)
                have m_has := frm.cell f1 m_has (by omega)
                have fr := fr.step f1 (by omega) (by omega)
                refine Ev.ret rfl rfl (Nat.le_refl _) (Nat.le_refl _) ?_
                have hcc := cpl_chn (L1 := S.1) hw (fun f => hLS f) hs2 hs3 hv2 hab2 (sm := (tK U n (Re s2) = 1 ∧ tV U n (Re s2) = v2 ∧ ab2 = true)) Iff.rfl
                have hch : chn U n 1 S.1 s 2 = s3 := hcc.2 hsm
                rw [← hQ, hch]
                refine ⟨rfl, fr, _, _, _, _, m0, m_all, m_read, m_has, hst, ?_, ?_⟩
                · exact (hSF.mono (Nat.le_succ b)).cpl (by omega) (by omega)
                · intro hw9 hf9
                  rw [hs3] at hw9 hf9
                  obtain ⟨w2, k2, f2, g2, -⟩ := nst_f0 hw9 hf9
                  have q2 := f2
                  have r2 := w2
                  rw [hs2] at q2 r2
                  obtain ⟨w1, k1, f1, g1, -⟩ := nst_f0 r2 q2
                  have hm := hrd f1
                  have hLs := hLS f1
                  have u2 : v2 = tV U n (Re s) := by rw [hv2, rvl_ok w1 k1 g1]
                  have u3 : v3 = tV U n (Re s2) := by rw [hv3, rvl_ok w2 k2 g2]
                  have l1 : tV U n (Re s) < L := of_decide_eq_true g1
                  have l2 : tV U n (Re s2) < L := of_decide_eq_true g2
                  have hne : v3 ≠ v2 := fun e => hsm ⟨k2, u3.symm.trans e, by rw [hab2]; exact (rab_ok w1 k1 g1)⟩
                  have e1 : chn U n 1 S.1 s 1 = s2 := by
                    rw [hs2]
                    refine nst_eq rfl (fun _ _ f => ?_)
                    show (if (1 : Nat) = 1 then decide (tV U n (Re s) < S.1) && (decide (0 = 0) || !decide (tV U n (Re s) = tV U n (Re s))) else _) = decide (tV U n (Re s) < L)
                    rw [if_pos rfl, hLs]
                    simp
                  have n0 : nus U n 1 S.1 s 0 = v2 := u2.symm
                  have n1 : nus U n 1 S.1 s 1 = v3 := by unfold nus; rw [e1, u3]
                  show mS _ 0 (S_ar S 3 (cplF S.1 (S.2.2 3) (nus U n 1 S.1 s 0) (nus U n 1 S.1 s 1)))
                  rw [n0, n1]
                  exact mS_cpl hm hn16 hn5 hSF (by omega) (by omega) hne
              · skip
                refine Ev.ret rfl rfl (Nat.le_refl _) (Nat.le_refl _) ?_
                have hcc := cpl_chn (L1 := S.1) hw (fun f => hLS f) hs2 hs3 hv2 hab2 (sm := (tK U n (Re s2) = 1 ∧ tV U n (Re s2) = v2 ∧ ab2 = true)) Iff.rfl
                have hch : chn U n 1 S.1 s 2 = s3 := hcc.2 hsm
                rw [← hQ, hch]
                refine ⟨rfl, fr, _, _, _, _, m0, m_all, m_read, m_has, hst, ?_, ?_⟩
                · exact hSF.mono (Nat.le_succ b)
                · intro hw9 hf9
                  exfalso
                  have hw8 := hw9
                  rw [hs3] at hw9 hf9
                  obtain ⟨w2, k2, f2, g2, -⟩ := nst_f0 hw9 hf9
                  have q2 := f2
                  have r2 := w2
                  rw [hs2] at q2 r2
                  obtain ⟨w1, k1, f1, g1, -⟩ := nst_f0 r2 q2
                  have hLs := hLS f1
                  have l1 : tV U n (Re s) < L := of_decide_eq_true g1
                  have l2 : tV U n (Re s2) < L := of_decide_eq_true g2
                  have u2 : v2 = tV U n (Re s) := by rw [hv2, rvl_ok w1 k1 g1]
                  have u3 : v3 = tV U n (Re s2) := by rw [hv3, rvl_ok w2 k2 g2]
                  exact absurd c101 (nI_nlt (a := 15) (b := v3) (by omega) (by decide))
      · skip
        refine Ev.iconst (v := 1) rfl (by decide) ?_
        refine Ev.goto (tgt := 47) rfl (by decide) ?_
        have hsm : (tK U n (Re s2) = 1 ∧ tV U n (Re s2) = v2 ∧ ab2 = true) := ⟨hk1, hv32, b01 c39⟩
        refine Ev.istore_n rfl rfl rfl ?_
        refine Ev.aload_n rfl rfl ?_
        refine Ev.iconst (v := 0) rfl (by decide) ?_
        refine Ev.aload_n rfl rfl ?_
        refine Ev.getf rfl rfl m0 rfl ?_
        refine Ev.iconst (v := 0) rfl (by decide) ?_
        refine Ev.ialdN (k := 0) rfl m_read (rfl : (0 : Int32) = nI 0) ⟨(by omega), by decide⟩ ?_
        rw [show rd 0 = nI L from hL]
        refine Ev.iconst (v := 1) rfl (by decide) ?_
        refine Ev.isub rfl ?_
        have hok2 := hok
        have hr2 : v2 ≤ L := by rw [hv2]; exact rvl_L
        refine Ev.xV2 rfl rfl m0 rfl rfl (by decide) ⟨(Nat.le_refl _), (Nat.le_refl _)⟩ (m_numb_ok m0 m_all ht hA0 hst hok (lo := 0) (G := fun v => decide (v < L)) (K_in_L (by omega))) (fun τ902 f9 q9 => ?_)
        obtain ⟨g902, A902, m0, m_all, hst⟩ := q9
        have m_read := frm.cell f9 m_read (by omega)
        have m_has := frm.cell f9 m_has (by omega)
        have fr := fr.step f9 (by omega) (by omega)
        obtain ⟨s3, hs3⟩ : ∃ q, q = nst U n ((fun v => decide (v < L)) (tV U n (Re s2))) s2 := ⟨_, rfl⟩
        obtain ⟨ab3, hab3⟩ : ∃ q, q = rab U n (fun v => decide (v < L)) ab2 s2 := ⟨_, rfl⟩
        obtain ⟨v3, hv3⟩ : ∃ q, q = rvl U n 0 (fun v => decide (v < L)) s2 := ⟨_, rfl⟩
        rw [← hs3, ← hab3] at hst
        rw [← hv3]
        have hok : Rok U n s3 := by
          rw [hs3]
          exact nst_ok ht hok
        have hr3 : v3 ≤ L := by rw [hv3]; exact rvl_L
        refine Ev.istore rfl rfl rfl ?_
        refine Ev.iload_n rfl rfl ?_
        refine Ev.zeq (tgt := 73) rfl (by decide) (fun c64 => absurd c64 (by decide)) (fun c64 => ?_)
        refine Ev.aload_n rfl rfl ?_
        refine Ev.iconst (v := 2) rfl (by decide) ?_
        refine Ev.iload_n rfl rfl ?_
        refine Ev.xV2u rfl rfl m0 rfl rfl (by decide) ⟨(Nat.le_refl _), (Nat.le_refl _)⟩ (m_also_ok (k := 2) m0 m_all hst hok.2.1 (by decide) (by have := tS0_le ht hok2.1; omega) (by rw [hs3]; exact fun a b => cpl_ho hok2 a b)) (fun τ903 f9 q9 => ?_)
        obtain ⟨g903, A903, m0, m_all, hst⟩ := q9
        have m_read := frm.cell f9 m_read (by omega)
        have m_has := frm.cell f9 m_has (by omega)
        have fr := fr.step f9 (by omega) (by omega)
        obtain ⟨s4, hs4⟩ : ∃ q, q = rnt s3 2 (tS0 U n (Re s2)) := ⟨_, rfl⟩
        rw [← hs4] at hst
        refine Ev.aload_n rfl rfl ?_
        refine Ev.getf rfl rfl m0 rfl ?_
        rw [hst.2.2.2.2.2.1]
        refine Ev.zne (tgt := 104) rfl (by decide) (fun c77 => ?_) (fun c77 => ?_)
        · skip
          refine Ev.ret rfl rfl (Nat.le_refl _) (Nat.le_refl _) ?_
          have hcc := cpl_chn (L1 := S.1) hw (fun f => hLS f) hs2 hs3 hv2 hab2 (sm := (tK U n (Re s2) = 1 ∧ tV U n (Re s2) = v2 ∧ ab2 = true)) Iff.rfl
          have hch : chn U n 1 S.1 s 2 = s4 := (hcc.1 hsm).trans hs4.symm
          rw [← hQ, hch]
          refine ⟨rfl, fr, _, _, _, _, m0, m_all, m_read, m_has, hst, ?_, ?_⟩
          · exact hSF.mono (Nat.le_succ b)
          · intro hw9 hf9
            rw [hs4] at hf9
            exact absurd hf9 (rnt_f0 (by decide))
        · skip
          refine Ev.aload_n rfl rfl ?_
          refine Ev.getf rfl rfl m0 rfl ?_
          rw [hst.2.2.2.2.2.2]
          refine Ev.zeq (tgt := 104) rfl (by decide) (fun c84 => ?_) (fun c84 => ?_)
          · skip
            refine Ev.ret rfl rfl (Nat.le_refl _) (Nat.le_refl _) ?_
            have hcc := cpl_chn (L1 := S.1) hw (fun f => hLS f) hs2 hs3 hv2 hab2 (sm := (tK U n (Re s2) = 1 ∧ tV U n (Re s2) = v2 ∧ ab2 = true)) Iff.rfl
            have hch : chn U n 1 S.1 s 2 = s4 := (hcc.1 hsm).trans hs4.symm
            rw [← hQ, hch]
            refine ⟨rfl, fr, _, _, _, _, m0, m_all, m_read, m_has, hst, ?_, ?_⟩
            · exact hSF.mono (Nat.le_succ b)
            · intro hw9 hf9
              rw [hs4] at hf9
              exact absurd hf9 (rnt_f0 (by decide))
          · skip
            refine Ev.iload_n rfl rfl ?_
            refine Ev.zne (tgt := 104) rfl (by decide) (fun c88 => ?_) (fun c88 => absurd c88 (by decide))
            refine Ev.ret rfl rfl (Nat.le_refl _) (Nat.le_refl _) ?_
            have hcc := cpl_chn (L1 := S.1) hw (fun f => hLS f) hs2 hs3 hv2 hab2 (sm := (tK U n (Re s2) = 1 ∧ tV U n (Re s2) = v2 ∧ ab2 = true)) Iff.rfl
            have hch : chn U n 1 S.1 s 2 = s4 := (hcc.1 hsm).trans hs4.symm
            rw [← hQ, hch]
            refine ⟨rfl, fr, _, _, _, _, m0, m_all, m_read, m_has, hst, ?_, ?_⟩
            · exact hSF.mono (Nat.le_succ b)
            · intro hw9 hf9
              rw [hs4] at hf9
              exact absurd hf9 (rnt_f0 (by decide))
end
end
