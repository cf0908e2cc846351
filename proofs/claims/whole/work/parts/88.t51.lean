/-! Texts of plans: what a line tells; the reference reads who sits. -/
noncomputable section
/-- a line's start in a plan: a fault is noted where there is no room, or no class -/
def lstP (k : Nat) (P : Pln) (s : Rs) (a : Nat) : Rs := if 15 ≤ k ∧ k < 20 ∧ 6 ≤ P.1 then rnt s 3 a else if k = 20 ∧ P.1 = 0 then rnt s 4 a else s
/-- the readings of a line of those who sit; whose bits -/
def chs (U : Nat → Nat) (n : Nat) (s : Rs) : Nat → Rs
  | 0 => s
  | j + 1 => nst U n ((fun v => decide (0 ≤ v) && decide (v ≤ 15)) (tV U n (Re (chs U n s j)))) (chs U n s j)
def msk (U : Nat → Nat) (n : Nat) (s : Rs) : Nat → Int32
  | 0 => 0
  | j + 1 => msk U n s j ||| (1 : Int32) <<< (nI (tV U n (Re (chs U n s j))) &&& 31)
/-- the readings end behind e numbers -/
def sitEnd (U : Nat → Nat) (n : Nat) (s : Rs) (e : Nat) : Prop := 1 ≤ e ∧ (∀ q, 1 ≤ q → q < e → Rw (chs U n s q) = false ∧ tK U n (Re (chs U n s q)) = 1) ∧ (Rw (chs U n s e) = true ∨ ¬ tK U n (Re (chs U n s e)) = 1)
/-- what a line tells -/
def LnP (k : Nat) (nu : Nat → Nat) (P : Pln) : Pln := (P.1 + 1, fun j => if j = P.1 then (fun f => if f = 0 then nI (k - 15) else if f = 1 then nI (nu 0) else if f = 2 then nI (nu 1) else if f = 3 then nI (nu 2) else if f = 4 then (if k = 16 then nI (nu 3) else -1) else 0) else P.2 j)
def LnQ (m : Int32) (P : Pln) : Pln := (P.1, fun j => if j + 1 = P.1 then L_set (P.2 j) 5 (P.2 j 5 ||| m) else P.2 j)
section
variable {U : Nat → Nat} {n : Nat} {s : Rs}
theorem lstP_ok {k a : Nat} {P : Pln} (h : Rok U n s) (ha : a < tS0 U n (Re s)) : Rok U n (lstP k P s a) := by
  unfold lstP
  split
  · exact rnt_ok h (by decide) (fun _ => ha)
  · split
    · exact rnt_ok h (by decide) (fun _ => ha)
    · exact h
theorem chs_ok (ht : txt U n) (h : Rok U n s) : ∀ j, Rok U n (chs U n s j)
  | 0 => h
  | j + 1 => nst_ok ht (chs_ok ht h j)
theorem chs_f0 : ∀ j, Rw (chs U n s j) = false → Rf (chs U n s j) = 0 → Rf s = 0
  | 0, _, h => h
  | j + 1, hw, hf => by
    obtain ⟨w, _, f, _, _⟩ := nst_f0 hw hf
    exact chs_f0 j w f
/-- while numbers come, each ends further on -/
theorem chs_far (ht : txt U n) (h : Rok U n s) (hw : Rw s = false) : ∀ j, (∀ q, q < j → Rw (chs U n s q) = false ∧ tK U n (Re (chs U n s q)) = 1) → Rw (chs U n s j) = false ∧ Re s + j ≤ Re (chs U n s j)
  | 0, _ => ⟨hw, Nat.le_refl _⟩
  | j + 1, hq => by
    obtain ⟨_, b⟩ := chs_far ht h hw j (fun q c => hq q (by omega))
    obtain ⟨c, d⟩ := hq j (by omega)
    have e : chs U n s (j + 1) = nst U n ((fun v => decide (0 ≤ v) && decide (v ≤ 15)) (tV U n (Re (chs U n s j)))) (chs U n s j) := rfl
    have w : Rw (chs U n s (j + 1)) = false := by
      rw [e, nst_n c d]
      split <;> rfl
    refine ⟨w, ?_⟩
    rw [e] at w ⊢
    rw [(nst_nw w).2.2]
    have h1 := (chs_ok ht h j).1
    have := tE_lt ht h1 (by omega)
    have := (tS0_le ht h1).1
    omega
theorem sitEnd_ex (ht : txt U n) (h : Rok U n s) (hw : Rw s = false) : ∃ e, sitEnd U n s e := by
  have key : ∀ k, (∃ e, sitEnd U n s e) ∨ ∀ q, 1 ≤ q → q < k + 1 → Rw (chs U n s q) = false ∧ tK U n (Re (chs U n s q)) = 1 := by
    intro k
    induction k with
    | zero => exact Or.inr (fun q h1 h2 => absurd h1 (by omega))
    | succ k ih =>
      rcases ih with c | c
      · exact Or.inl c
      · by_cases d : Rw (chs U n s (k + 1)) = true ∨ ¬ tK U n (Re (chs U n s (k + 1))) = 1
        · exact Or.inl ⟨k + 1, by omega, c, d⟩
        · refine Or.inr (fun q h1 h2 => ?_)
          by_cases e : q = k + 1
          · subst e
            refine ⟨?_, Classical.byContradiction (fun x => d (Or.inr x))⟩
            cases hx : Rw (chs U n s (k + 1))
            · rfl
            · exact absurd (Or.inl hx) d
          · exact c q h1 (by omega)
  rcases key (n + 1) with c | c
  · exact c
  · have hk0 : tK U n (Re s) = 1 := by
      have a := (c 1 (by omega) (by omega)).1
      exact (nst_nw (g := (fun v => decide (0 ≤ v) && decide (v ≤ 15)) (tV U n (Re (chs U n s 0)))) (s := chs U n s 0) a).2.1
    have f := (chs_far ht h hw (n + 1) (fun q hq => by
      by_cases e : q = 0
      · subst e
        exact ⟨hw, hk0⟩
      · exact c q (by omega) (by omega))).2
    have := (chs_ok ht h (n + 1)).1
    omega
/-- where the readings end -/
def sitC (U : Nat → Nat) (n : Nat) (s : Rs) : Nat := Classical.epsilon (fun e => sitEnd U n s e)
theorem sitC_ok (ht : txt U n) (h : Rok U n s) (hw : Rw s = false) : sitEnd U n s (sitC U n s) := Classical.epsilon_spec (sitEnd_ex ht h hw)
end
section
variable {P : Pln} {rd : Nat → Int32}
theorem mP_Q0 (h : mP rd 0 P) : mP rd 0 (LnQ 0 P) := by
  obtain ⟨h1, h2⟩ := h
  refine ⟨h1, fun k hk f hf => ?_⟩
  have q := h2 k hk f hf
  show rd (0 + 1 + 6 * k + f) = (if k + 1 = P.1 then L_set (P.2 k) 5 (P.2 k 5 ||| 0) else P.2 k) f
  split
  · unfold L_set
    by_cases c : f = 5
    · rw [if_pos c, Int32.or_zero, ← c]
      exact q
    · rw [if_neg c]
      exact q
  · exact q
theorem mP_Q1 {m w : Int32} (h : mP rd 0 (LnQ m P)) (h1 : 1 ≤ P.1) (h6 : P.1 ≤ 6) : mP (upd rd (1 + 6 * (P.1 - 1) + 5) (rd (1 + 6 * (P.1 - 1) + 5) ||| w)) 0 (LnQ (m ||| w) P) := by
  obtain ⟨a1, a2⟩ := h
  refine ⟨(pk_un (by omega)).trans a1, fun k hk f hf => ?_⟩
  have hk : k < P.1 := hk
  have q := a2 k hk f hf
  have q : rd (0 + 1 + 6 * k + f) = (if k + 1 = P.1 then L_set (P.2 k) 5 (P.2 k 5 ||| m) else P.2 k) f := q
  show upd rd (1 + 6 * (P.1 - 1) + 5) (rd (1 + 6 * (P.1 - 1) + 5) ||| w) (0 + 1 + 6 * k + f) = (if k + 1 = P.1 then L_set (P.2 k) 5 (P.2 k 5 ||| (m ||| w)) else P.2 k) f
  by_cases c : k + 1 = P.1
  · rw [if_pos c] at q ⊢
    unfold L_set at q ⊢
    by_cases d : f = 5
    · rw [if_pos d] at q ⊢
      rw [show 0 + 1 + 6 * k + f = 1 + 6 * (P.1 - 1) + 5 by omega] at q ⊢
      rw [pk_us, q, Int32.or_assoc]
    · rw [if_neg d] at q ⊢
      rw [pk_un (by omega)]
      exact q
  · rw [if_neg c] at q ⊢
    rw [pk_un (by omega)]
    exact q
theorem mP_k {k a b c d : Nat} {v : Int32} {nu : Nat → Nat} (h : mP rd 0 P) (h6 : P.1 < 6) (hk : d = k - 15) (ha : a = nu 0) (hb : b = nu 1) (hc : c = nu 2) (hv : v = if k = 16 then nI (nu 3) else -1) : mP (upd (upd (upd (upd (upd (upd (upd rd (1 + 6 * P.1 + 0) (nI d)) (1 + 6 * P.1 + 1) (nI a)) (1 + 6 * P.1 + 2) (nI b)) (1 + 6 * P.1 + 3) (nI c)) (1 + 6 * P.1 + 4) v) (1 + 6 * P.1 + 5) 0) 0 (nI (P.1 + 1))) 0 (LnP k nu P) := by
  obtain ⟨a1, a2⟩ := h
  subst hk; subst ha; subst hb; subst hc
  refine ⟨pk_us, fun j hj f hf => ?_⟩
  have hj : j < P.1 + 1 := hj
  show _ = (if j = P.1 then (fun f => if f = 0 then nI (k - 15) else if f = 1 then nI (nu 0) else if f = 2 then nI (nu 1) else if f = 3 then nI (nu 2) else if f = 4 then (if k = 16 then nI (nu 3) else -1) else 0) else P.2 j) f
  rw [pk_un (by omega)]
  by_cases e : j = P.1
  · subst e
    rw [if_pos rfl]
    have z : ∀ w, w < 6 → f = w → 0 + 1 + 6 * P.1 + f = 1 + 6 * P.1 + w := fun w _ e => by omega
    rcases (show f = 0 ∨ f = 1 ∨ f = 2 ∨ f = 3 ∨ f = 4 ∨ f = 5 by omega) with c | c | c | c | c | c
    · rw [z 0 (by decide) c, c, pk_un (by omega), pk_un (by omega), pk_un (by omega), pk_un (by omega), pk_un (by omega), pk_us]
      rfl
    · rw [z 1 (by decide) c, c, pk_un (by omega), pk_un (by omega), pk_un (by omega), pk_un (by omega), pk_us]
      rfl
    · rw [z 2 (by decide) c, c, pk_un (by omega), pk_un (by omega), pk_un (by omega), pk_us]
      rfl
    · rw [z 3 (by decide) c, c, pk_un (by omega), pk_un (by omega), pk_us]
      rfl
    · rw [z 4 (by decide) c, c, pk_un (by omega), pk_us]
      exact hv
    · rw [z 5 (by decide) c, c, pk_us]
      rfl
  · rw [if_neg e]
    have hj2 : j < P.1 := by omega
    rw [pk_un (by omega), pk_un (by omega), pk_un (by omega), pk_un (by omega), pk_un (by omega), pk_un (by omega)]
    exact a2 j hj2 f hf
end
section
variable {Γ : ex_G} {σ : ex_S} {x q a p y : Nat} {S : Sch} {T : Tol} {P : Pln} {g A : Nat → Int32}
variable {U : Nat → Nat} {n : Nat} {A0 : Nat → Int32} {s : Rs} {ab : Bool}
theorem m_sits_ok {P : Pln} (m0 : σ.2 y = some (.inr (.inr (10, mo y g)))) (m_all : σ.2 (y + 1) = some (.inl (0, 4500, A))) {rd : Nat → Int32} (m_read : σ.2 (y + 3) = some (.inl (0, 120, rd))) (ht : txt U n) (hA0 : ∀ p, p < n → A0 (10 + p) = nI (U p)) (hst : MSt U n A0 A g s ab) (hok : Rok U n s) (hw : Rw s = false) (h6 : P.1 ≤ 6) {c : Nat} (hrc : rd 0 = nI c) (hcb : c ≤ 600) (hrd : Rf s = 0 → mP rd 0 P) {a0 : Nat} (ha0 : a0 < tS0 U n (Re s)) (hpa : Rw s = false → ¬ Rf s = 0 → ∃ q, Rp s = nI q ∧ q < a0) {e : Nat} (he : sitEnd U n (lstP 20 P s a0) e) : RetX Γ m_M_sitsLine [.ref y, .int (nI a0)] σ y (y + 4) none (fun τ => ∃ (g1 A1 rd1 : Nat → Int32) (ab1 : Bool), τ.2 y = some (.inr (.inr (10, mo y g1))) ∧ τ.2 (y + 1) = some (.inl (0, 4500, A1)) ∧ τ.2 (y + 3) = some (.inl (0, 120, rd1)) ∧ τ.2 (y + 2) = σ.2 (y + 2) ∧ MSt U n A0 A1 g1 (chs U n (lstP 20 P s a0) e) ab1 ∧ rd1 0 = nI c ∧ (Rw (chs U n (lstP 20 P s a0) e) = false → Rf (chs U n (lstP 20 P s a0) e) = 0 → mP rd1 0 (LnQ (msk U n (lstP 20 P s a0) e) P))) := by
  have hn6 := ht.1
  have h600 := tS0_le ht hok.1
  have hcP : Rf s = 0 → P.1 = c := fun f => nI_injL (by omega) (by omega) ((hrd f).1.symm.trans hrc)
  unfold RetX
  obtain ⟨s2, hs2⟩ : ∃ q, q = lstP 20 P s a0 := ⟨_, rfl⟩
  rw [← hs2] at he ⊢
  have hok2 : Rok U n s2 := by rw [hs2]; exact lstP_ok hok ha0
  have hw2 : Rw s2 = false := by
    rw [hs2]
    unfold lstP
    split
    · exact rnt_w.trans hw
    · split
      · exact rnt_w.trans hw
      · exact hw
  have hP1 : Rf s2 = 0 → 1 ≤ P.1 := fun f => by
    by_cases q : P.1 = 0
    · rw [hs2] at f
      unfold lstP at f
      rw [if_neg (by omega), if_pos ⟨rfl, q⟩] at f
      exact absurd f (rnt_f0 (by decide))
    · omega
  have hf2 : Rf s2 = 0 → Rf s = 0 := fun f => by
    rw [hs2] at f
    unfold lstP at f
    split at f
    · exact absurd f (rnt_f0 (by decide))
    · split at f
      · exact absurd f (rnt_f0 (by decide))
      · exact f
  have hm0 : Rw (chs U n s2 0) = false → Rf (chs U n s2 0) = 0 → mP rd 0 (LnQ (msk U n s2 0) P) := fun _ f => mP_Q0 (hrd (hf2 f))
  generalize hQ : ((fun (r0 : Option Value) (τ : ex_S) => r0 = none ∧ frm σ τ y (y + 4) ∧ (fun τ : ex_S => ∃ (g1 A1 rd1 : Nat → Int32) (ab1 : Bool), τ.2 y = some (.inr (.inr (10, mo y g1))) ∧ τ.2 (y + 1) = some (.inl (0, 4500, A1)) ∧ τ.2 (y + 3) = some (.inl (0, 120, rd1)) ∧ τ.2 (y + 2) = σ.2 (y + 2) ∧ MSt U n A0 A1 g1 (chs U n s2 e) ab1 ∧ rd1 0 = nI c ∧ (Rw (chs U n s2 e) = false → Rf (chs U n s2 e) = 0 → mP rd1 0 (LnQ (msk U n s2 e) P))) τ)) = Q
  refine Ret.start pm_183 rfl ?_
  have fr : frm σ σ y (y + 4) := frm.rf
  have m_has : σ.2 (y + 2) = σ.2 (y + 2) := rfl
  refine Ev.aload_n rfl rfl ?_
  refine Ev.getf rfl rfl m0 rfl ?_
  refine Ev.iconst (v := 0) rfl (by decide) ?_
  refine Ev.ialdN (k := 0) rfl m_read (rfl : (0 : Int32) = nI 0) ⟨(by omega), by decide⟩ ?_
  rw [show rd 0 = nI c from hrc]
  refine Ev.zne (tgt := 15) rfl (by decide) (fun c6 => ?_) (fun c6 => ?_)
  · skip
    have hc0 : ¬ c = 0 := fun h => c6 (by rw [h]; rfl)
    have hss : s2 = s := by
      rw [hs2]
      unfold lstP
      rw [if_neg (by omega)]
      by_cases hf0 : Rf s = 0
      · have hcP := hcP hf0
        rw [if_neg (by omega)]
      · rw [rnt_f hf0]
        exact ite_self _
    rw [← hss] at hst
    refine Ev.iconst (v := 1) rfl (by decide) ?_
    refine Ev.istore_n rfl rfl rfl ?_
    have hst0 := hst
    have hl17 : ∀ (m17 : Nat) (fs : Int32) (i : Nat) (gq : (Nat → Int32)) (Aq : (Nat → Int32)) (rq : (Nat → Int32)), (i ≤ e ∧ fs = (if i = 0 then 1 else 0) ∧ rq 0 = nI c ∧ (∃ abq, MSt U n A0 Aq gq (chs U n s2 i) abq) ∧ Rok U n (chs U n s2 i) ∧ (Rw (chs U n s2 i) = false → Rf (chs U n s2 i) = 0 → mP rq 0 (LnQ (msk U n s2 i) P))) → (e - i) < m17 → ∀ τ17 : ex_S, frm σ τ17 y (y + 4) → τ17.2 y = some (.inr (.inr (10, mo y gq))) → τ17.2 (y + 1) = some (.inl (0, 4500, Aq)) → τ17.2 (y + 3) = some (.inl (0, 120, rq)) → τ17.2 (y + 2) = σ.2 (y + 2) → Ev Γ 0 0 m_M_sitsLine 0 0 17 [some (.ref y), none, some (.int fs), none] [] τ17 Q := by
      intro m17
      induction m17 with
      | zero => intro fs i gq Aq rq _ hm; exact absurd hm (Nat.not_lt_zero _)
      | succ m17 ih17 =>
        intro fs i gq Aq rq hJ17 hm17
        intro τ17 fr m0 m_all m_read m_has
        obtain ⟨hie, hfs, hrc, ⟨abq, hst⟩, hok, himp⟩ := hJ17
        refine Ev.aload_n rfl rfl ?_
        refine Ev.getf rfl rfl m0 rfl ?_
        rw [hst.2.2.2.2.2.1]
        refine Ev.zne (tgt := 102) rfl (by decide) (fun c21 => ?_) (fun c21 => ?_)
        · skip
          refine Ev.ret rfl rfl (Nat.le_refl _) (Nat.le_refl _) ?_
          have hie2 : i = e := by
            by_cases q : i = 0
            · rw [q] at c21
              exact absurd (b01 c21) (by rw [show chs U n s2 0 = s2 from rfl, hw2]; decide)
            · by_cases r : i = e
              · exact r
              · have := (he.2.1 i (by omega) (by omega)).1
                rw [b01 c21] at this
                cases this
          subst hie2
          rw [← hQ]
          exact ⟨rfl, fr, _, _, _, _, m0, m_all, m_read, m_has, hst, hrc, himp⟩
        · skip
          refine Ev.iload_n rfl rfl ?_
          refine Ev.zne (tgt := 36) rfl (by decide) (fun c25 => ?_) (fun c25 => ?_)
          · skip
            have hi0 : i = 0 := Classical.byContradiction (fun h => c25 (by rw [hfs, if_neg h]))
            have hlt : i < e := by have := he.1; omega
            refine Ev.aload_n rfl rfl ?_
            refine Ev.iconst (v := 1) rfl (by decide) ?_
            refine Ev.putE rfl rfl m0 rfl rfl rfl (Nat.le_of_ble_eq_true rfl) (fun τ740 f1 q1 => ?_)
            have m0 : τ740.2 y = some (.inr (.inr (10, mo y (upd gq 9 1)))) := q1
            have m_all := frm.cell f1 m_all (by omega)
            have m_read := frm.cell f1 m_read (by omega)
            have m_has := frm.cell f1 m_has (by omega)
            have fr := fr.step f1 (by omega) (by omega)
            have hst := MSt_ab (ab1 := true) hst (show (1 : Int32) = _ from rfl)
            refine Ev.aload_n rfl rfl ?_
            refine Ev.iconst (v := 0) rfl (by decide) ?_
            refine Ev.bipush (v := 15) rfl (by decide) ?_
            refine Ev.xV2 rfl rfl m0 rfl rfl (by decide) ⟨(Nat.le_refl _), (Nat.le_refl _)⟩ (m_numb_ok m0 m_all ht hA0 hst hok (lo := 0) (G := fun v => decide (0 ≤ v) && decide (v ≤ 15)) (K_in_G ⟨by decide, by decide⟩)) (fun τ901 f9 q9 => ?_)
            obtain ⟨g901, A901, m0, m_all, hst⟩ := q9
            have m_read := frm.cell f9 m_read (by omega)
            have m_has := frm.cell f9 m_has (by omega)
            have fr := fr.step f9 (by omega) (by omega)
            obtain ⟨s3, hs3⟩ : ∃ q, q = nst U n ((fun v => decide (0 ≤ v) && decide (v ≤ 15)) (tV U n (Re (chs U n s2 i)))) (chs U n s2 i) := ⟨_, rfl⟩
            obtain ⟨ab3, hab3⟩ : ∃ q, q = rab U n (fun v => decide (0 ≤ v) && decide (v ≤ 15)) true (chs U n s2 i) := ⟨_, rfl⟩
            obtain ⟨v3, hv3⟩ : ∃ q, q = rvl U n 0 (fun v => decide (0 ≤ v) && decide (v ≤ 15)) (chs U n s2 i) := ⟨_, rfl⟩
            rw [← hs3, ← hab3] at hst
            rw [← hv3]
            have hok : Rok U n s3 := by
              rw [hs3]
              exact nst_ok ht hok
            have hr3 := rvl_le (U := U) (n := n) (lo := 0) (hi := 15) (s := (chs U n s2 i)) (by decide)
            rw [← hv3] at hr3
            refine Ev.istore_n rfl rfl rfl ?_
            refine Ev.aload_n rfl rfl ?_
            refine Ev.getf rfl rfl m0 rfl ?_
            rw [hst.2.2.2.2.2.2]
            refine Ev.zeq (tgt := 97) rfl (by decide) (fun c53 => ?_) (fun c53 => ?_)
            · skip
              have hcn : chs U n s2 (i + 1) = s3 := hs3.symm
              have hokn : Rok U n (chs U n s2 (i + 1)) := by rw [hcn]; exact hok
              have hstn := hst
              rw [← hcn] at hstn
              have hrcn := hrc
              have hmn : Rw (chs U n s2 (i + 1)) = false → Rf (chs U n s2 (i + 1)) = 0 → mP rq 0 (LnQ (msk U n s2 (i + 1)) P) := by
                intro hw9 hf9
                obtain ⟨w2, k2, f2, g2, -⟩ := nst_f0 (s := chs U n s2 i) hw9 hf9
                have hm := himp w2 f2
                have hcP : P.1 = c := nI_injL (by omega) (by omega) (hm.1.symm.trans hrc)
                have hP1 := hP1 (chs_f0 i w2 f2)
                have u3 : v3 = tV U n (Re (chs U n s2 i)) := by rw [hv3, rvl_ok w2 k2 g2]
                have hb9 := b00 c53
                rw [hab3, rab_ok w2 k2 g2] at hb9
                cases hb9
              refine Ev.iconst (v := 0) rfl (by decide) ?_
              refine Ev.istore_n rfl rfl rfl ?_
              refine Ev.goto (tgt := 17) rfl (by decide) ?_
              exact (ih17 (0 : Int32) (i + 1) g901 A901 rq (⟨by omega, (if_neg (by omega)).symm, hrcn, ⟨_, hstn⟩, hokn, hmn⟩) (by omega) τ901 fr m0 m_all m_read m_has).fg (gs rfl (gn (gs rfl (gn gz))))
            · skip
              by_cases hc6 : 1 ≤ c ∧ c ≤ 6
              · skip
                refine Ev.aload_n rfl rfl ?_
                refine Ev.getf rfl rfl m0 rfl ?_
                refine Ev.iconst (v := 0) rfl (by decide) ?_
                refine Ev.ialdN (k := 0) rfl m_read (rfl : (0 : Int32) = nI 0) ⟨(by omega), by decide⟩ ?_
                rw [show rq 0 = nI c from hrc]
                refine Ev.iconst (v := 1) rfl (by decide) ?_
                refine Ev.bipush (v := 6) rfl (by decide) ?_
                refine Ev.cS3 rfl rfl rfl (by decide) ⟨(Nat.le_refl _), (Nat.le_refl _)⟩ (m_in_y (K_in_nn (a := c) (b := 1) (c := 6) hc6.1 hc6.2 (by decide))) ?_
                refine Ev.zeq (tgt := 97) rfl (by decide) (fun c68 => absurd c68 (by decide)) (fun c68 => ?_)
                refine Ev.aload_n rfl rfl ?_
                refine Ev.getf rfl rfl m0 rfl ?_
                refine Ev.iconst (v := 1) rfl (by decide) ?_
                refine Ev.bipush (v := 6) rfl (by decide) ?_
                refine Ev.aload_n rfl rfl ?_
                refine Ev.getf rfl rfl m0 rfl ?_
                refine Ev.iconst (v := 0) rfl (by decide) ?_
                refine Ev.ialdN (k := 0) rfl m_read (rfl : (0 : Int32) = nI 0) ⟨(by omega), by decide⟩ ?_
                rw [show rq 0 = nI c from hrc]
                refine Ev.iconst (v := 1) rfl (by decide) ?_
                refine Ev.isub rfl ?_
                refine Ev.imul rfl ?_
                refine Ev.iadd rfl ?_
                refine Ev.iconst (v := 5) rfl (by decide) ?_
                refine Ev.iadd rfl ?_
                refine Ev.dup2 rfl rfl rfl ?_
                refine Ev.ialdN (k := 1 + (6 * (c - 1)) + 5) rfl m_read (nq_add (a := 1 + (6 * (c - 1))) (b := 5) (nq_add (a := 1) (b := 6 * (c - 1)) (rfl : (1 : Int32) = nI 1) (nq_mul (a := 6) (b := c - 1) (rfl : (6 : Int32) = nI 6) (nq_sub (a := c) (b := 1) rfl (rfl : (1 : Int32) = nI 1) (by omega)))) (rfl : (5 : Int32) = nI 5)) ⟨(by omega), by decide⟩ ?_
                refine Ev.iconst (v := 1) rfl (by decide) ?_
                refine Ev.iload_n rfl rfl ?_
                refine Ev.ishl rfl ?_
                refine Ev.ior rfl ?_
                refine Ev.iastE (k := 1 + (6 * (c - 1)) + 5) rfl m_read (nq_add (a := 1 + (6 * (c - 1))) (b := 5) (nq_add (a := 1) (b := 6 * (c - 1)) (rfl : (1 : Int32) = nI 1) (nq_mul (a := 6) (b := c - 1) (rfl : (6 : Int32) = nI 6) (nq_sub (a := c) (b := 1) rfl (rfl : (1 : Int32) = nI 1) (by omega)))) (rfl : (5 : Int32) = nI 5)) ⟨(by omega), by decide⟩ (fun τ1 f1 m_read => ?_)
                have m0 := frm.cell f1 m0 (by omega)
                have m_all := frm.cell f1 m_all (by omega)
                have m_has := frm.cell f1 m_has (by omega)
                have fr := fr.step f1 (by omega) (by omega)
                have hcn : chs U n s2 (i + 1) = s3 := hs3.symm
                have hokn : Rok U n (chs U n s2 (i + 1)) := by rw [hcn]; exact hok
                have hstn := hst
                rw [← hcn] at hstn
                have hrcn : (upd rq (1 + (6 * (c - 1)) + 5) ((rq (1 + (6 * (c - 1)) + 5)) ||| ((1 : Int32) <<< ((nI v3) &&& 31)))) 0 = nI c := (pk_un (by omega)).trans hrc
                have hmn : Rw (chs U n s2 (i + 1)) = false → Rf (chs U n s2 (i + 1)) = 0 → mP (upd rq (1 + (6 * (c - 1)) + 5) ((rq (1 + (6 * (c - 1)) + 5)) ||| ((1 : Int32) <<< ((nI v3) &&& 31)))) 0 (LnQ (msk U n s2 (i + 1)) P) := by
                  intro hw9 hf9
                  obtain ⟨w2, k2, f2, g2, -⟩ := nst_f0 (s := chs U n s2 i) hw9 hf9
                  have hm := himp w2 f2
                  have hcP : P.1 = c := nI_injL (by omega) (by omega) (hm.1.symm.trans hrc)
                  have hP1 := hP1 (chs_f0 i w2 f2)
                  have u3 : v3 = tV U n (Re (chs U n s2 i)) := by rw [hv3, rvl_ok w2 k2 g2]
                  rw [u3]
                  have q := mP_Q1 (w := (1 : Int32) <<< (nI (tV U n (Re (chs U n s2 i))) &&& 31)) hm hP1 h6
                  rw [hcP] at q
                  exact q
                refine Ev.iconst (v := 0) rfl (by decide) ?_
                refine Ev.istore_n rfl rfl rfl ?_
                refine Ev.goto (tgt := 17) rfl (by decide) ?_
                exact (ih17 (0 : Int32) (i + 1) g901 A901 (upd rq (1 + (6 * (c - 1)) + 5) ((rq (1 + (6 * (c - 1)) + 5)) ||| ((1 : Int32) <<< ((nI v3) &&& 31)))) (⟨by omega, (if_neg (by omega)).symm, hrcn, ⟨_, hstn⟩, hokn, hmn⟩) (by omega) τ1 fr m0 m_all m_read m_has).fg (gs rfl (gn (gs rfl (gn gz))))
              · skip
                refine Ev.aload_n rfl rfl ?_
                refine Ev.getf rfl rfl m0 rfl ?_
                refine Ev.iconst (v := 0) rfl (by decide) ?_
                refine Ev.ialdN (k := 0) rfl m_read (rfl : (0 : Int32) = nI 0) ⟨(by omega), by decide⟩ ?_
                rw [show rq 0 = nI c from hrc]
                refine Ev.iconst (v := 1) rfl (by decide) ?_
                refine Ev.bipush (v := 6) rfl (by decide) ?_
                refine Ev.cS3 rfl rfl rfl (by decide) ⟨(Nat.le_refl _), (Nat.le_refl _)⟩ (m_in_n (K_in_nx (a := c) (b := 1) (c := 6) hc6 (by omega) (by decide) (by decide))) ?_
                refine Ev.zeq (tgt := 97) rfl (by decide) (fun c68 => ?_) (fun c68 => absurd (by decide) c68)
                have hcn : chs U n s2 (i + 1) = s3 := hs3.symm
                have hokn : Rok U n (chs U n s2 (i + 1)) := by rw [hcn]; exact hok
                have hstn := hst
                rw [← hcn] at hstn
                have hrcn := hrc
                have hmn : Rw (chs U n s2 (i + 1)) = false → Rf (chs U n s2 (i + 1)) = 0 → mP rq 0 (LnQ (msk U n s2 (i + 1)) P) := by
                  intro hw9 hf9
                  obtain ⟨w2, k2, f2, g2, -⟩ := nst_f0 (s := chs U n s2 i) hw9 hf9
                  have hm := himp w2 f2
                  have hcP : P.1 = c := nI_injL (by omega) (by omega) (hm.1.symm.trans hrc)
                  have hP1 := hP1 (chs_f0 i w2 f2)
                  have u3 : v3 = tV U n (Re (chs U n s2 i)) := by rw [hv3, rvl_ok w2 k2 g2]
                  exact absurd ⟨by omega, by omega⟩ hc6
                refine Ev.iconst (v := 0) rfl (by decide) ?_
                refine Ev.istore_n rfl rfl rfl ?_
                refine Ev.goto (tgt := 17) rfl (by decide) ?_
                exact (ih17 (0 : Int32) (i + 1) g901 A901 rq (⟨by omega, (if_neg (by omega)).symm, hrcn, ⟨_, hstn⟩, hokn, hmn⟩) (by omega) τ901 fr m0 m_all m_read m_has).fg (gs rfl (gn (gs rfl (gn gz))))
          · skip
            refine Ev.aload_n rfl rfl ?_
            refine Ev.getf rfl rfl m0 rfl ?_
            rw [hst.2.2.2.1.2.2.1]
            refine Ev.iconst (v := 1) rfl (by decide) ?_
            refine Ev.jne (tgt := 102) rfl (by decide) (fun c33 => ?_) (fun c33 => ?_)
            · skip
              refine Ev.ret rfl rfl (Nat.le_refl _) (Nat.le_refl _) ?_
              have hi0 : ¬ i = 0 := fun h => by
                rw [hfs, if_pos h] at c25
                exact absurd c25 (by decide)
              have hie2 : i = e := by
                by_cases r : i = e
                · exact r
                · exact absurd (congrArg nI (he.2.1 i (by omega) (by omega)).2) c33
              subst hie2
              rw [← hQ]
              exact ⟨rfl, fr, _, _, _, _, m0, m_all, m_read, m_has, hst, hrc, himp⟩
            · skip
              have hi0 : ¬ i = 0 := fun h => by
                rw [hfs, if_pos h] at c25
                exact absurd c25 (by decide)
              have hk1 : tK U n (Re (chs U n s2 i)) = 1 := nI_injL (b := 1) (by have := tK_le (U := U) (n := n) (e := Re (chs U n s2 i)); omega) (by decide) c33
              have hlt : i < e := by
                by_cases q : i = e
                · rcases he.2.2 with h | h
                  · rw [← q, b00 c21] at h; cases h
                  · rw [← q] at h; exact absurd hk1 h
                · omega
              refine Ev.aload_n rfl rfl ?_
              refine Ev.iconst (v := 1) rfl (by decide) ?_
              refine Ev.putE rfl rfl m0 rfl rfl rfl (Nat.le_of_ble_eq_true rfl) (fun τ740 f1 q1 => ?_)
              have m0 : τ740.2 y = some (.inr (.inr (10, mo y (upd gq 9 1)))) := q1
              have m_all := frm.cell f1 m_all (by omega)
              have m_read := frm.cell f1 m_read (by omega)
              have m_has := frm.cell f1 m_has (by omega)
              have fr := fr.step f1 (by omega) (by omega)
              have hst := MSt_ab (ab1 := true) hst (show (1 : Int32) = _ from rfl)
              refine Ev.aload_n rfl rfl ?_
              refine Ev.iconst (v := 0) rfl (by decide) ?_
              refine Ev.bipush (v := 15) rfl (by decide) ?_
              refine Ev.xV2 rfl rfl m0 rfl rfl (by decide) ⟨(Nat.le_refl _), (Nat.le_refl _)⟩ (m_numb_ok m0 m_all ht hA0 hst hok (lo := 0) (G := fun v => decide (0 ≤ v) && decide (v ≤ 15)) (K_in_G ⟨by decide, by decide⟩)) (fun τ901 f9 q9 => ?_)
              obtain ⟨g901, A901, m0, m_all, hst⟩ := q9
              have m_read := frm.cell f9 m_read (by omega)
              have m_has := frm.cell f9 m_has (by omega)
              have fr := fr.step f9 (by omega) (by omega)
              obtain ⟨s3, hs3⟩ : ∃ q, q = nst U n ((fun v => decide (0 ≤ v) && decide (v ≤ 15)) (tV U n (Re (chs U n s2 i)))) (chs U n s2 i) := ⟨_, rfl⟩
              obtain ⟨ab3, hab3⟩ : ∃ q, q = rab U n (fun v => decide (0 ≤ v) && decide (v ≤ 15)) true (chs U n s2 i) := ⟨_, rfl⟩
              obtain ⟨v3, hv3⟩ : ∃ q, q = rvl U n 0 (fun v => decide (0 ≤ v) && decide (v ≤ 15)) (chs U n s2 i) := ⟨_, rfl⟩
              rw [← hs3, ← hab3] at hst
              rw [← hv3]
              have hok : Rok U n s3 := by
                rw [hs3]
                exact nst_ok ht hok
              have hr3 := rvl_le (U := U) (n := n) (lo := 0) (hi := 15) (s := (chs U n s2 i)) (by decide)
              rw [← hv3] at hr3
              refine Ev.istore_n rfl rfl rfl ?_
              refine Ev.aload_n rfl rfl ?_
              refine Ev.getf rfl rfl m0 rfl ?_
              rw [hst.2.2.2.2.2.2]
              refine Ev.zeq (tgt := 97) rfl (by decide) (fun c53 => ?_) (fun c53 => ?_)
              · skip
                have hcn : chs U n s2 (i + 1) = s3 := hs3.symm
                have hokn : Rok U n (chs U n s2 (i + 1)) := by rw [hcn]; exact hok
                have hstn := hst
                rw [← hcn] at hstn
                have hrcn := hrc
                have hmn : Rw (chs U n s2 (i + 1)) = false → Rf (chs U n s2 (i + 1)) = 0 → mP rq 0 (LnQ (msk U n s2 (i + 1)) P) := by
                  intro hw9 hf9
                  obtain ⟨w2, k2, f2, g2, -⟩ := nst_f0 (s := chs U n s2 i) hw9 hf9
                  have hm := himp w2 f2
                  have hcP : P.1 = c := nI_injL (by omega) (by omega) (hm.1.symm.trans hrc)
                  have hP1 := hP1 (chs_f0 i w2 f2)
                  have u3 : v3 = tV U n (Re (chs U n s2 i)) := by rw [hv3, rvl_ok w2 k2 g2]
                  have hb9 := b00 c53
                  rw [hab3, rab_ok w2 k2 g2] at hb9
                  cases hb9
                refine Ev.iconst (v := 0) rfl (by decide) ?_
                refine Ev.istore_n rfl rfl rfl ?_
                refine Ev.goto (tgt := 17) rfl (by decide) ?_
                exact (ih17 (0 : Int32) (i + 1) g901 A901 rq (⟨by omega, (if_neg (by omega)).symm, hrcn, ⟨_, hstn⟩, hokn, hmn⟩) (by omega) τ901 fr m0 m_all m_read m_has).fg (gs rfl (gn (gs rfl (gn gz))))
              · skip
                by_cases hc6 : 1 ≤ c ∧ c ≤ 6
                · skip
                  refine Ev.aload_n rfl rfl ?_
                  refine Ev.getf rfl rfl m0 rfl ?_
                  refine Ev.iconst (v := 0) rfl (by decide) ?_
                  refine Ev.ialdN (k := 0) rfl m_read (rfl : (0 : Int32) = nI 0) ⟨(by omega), by decide⟩ ?_
                  rw [show rq 0 = nI c from hrc]
                  refine Ev.iconst (v := 1) rfl (by decide) ?_
                  refine Ev.bipush (v := 6) rfl (by decide) ?_
                  refine Ev.cS3 rfl rfl rfl (by decide) ⟨(Nat.le_refl _), (Nat.le_refl _)⟩ (m_in_y (K_in_nn (a := c) (b := 1) (c := 6) hc6.1 hc6.2 (by decide))) ?_
                  refine Ev.zeq (tgt := 97) rfl (by decide) (fun c68 => absurd c68 (by decide)) (fun c68 => ?_)
                  refine Ev.aload_n rfl rfl ?_
                  refine Ev.getf rfl rfl m0 rfl ?_
                  refine Ev.iconst (v := 1) rfl (by decide) ?_
                  refine Ev.bipush (v := 6) rfl (by decide) ?_
                  refine Ev.aload_n rfl rfl ?_
                  refine Ev.getf rfl rfl m0 rfl ?_
                  refine Ev.iconst (v := 0) rfl (by decide) ?_
                  refine Ev.ialdN (k := 0) rfl m_read (rfl : (0 : Int32) = nI 0) ⟨(by omega), by decide⟩ ?_
                  rw [show rq 0 = nI c from hrc]
                  refine Ev.iconst (v := 1) rfl (by decide) ?_
                  refine Ev.isub rfl ?_
                  refine Ev.imul rfl ?_
                  refine Ev.iadd rfl ?_
                  refine Ev.iconst (v := 5) rfl (by decide) ?_
                  refine Ev.iadd rfl ?_
                  refine Ev.dup2 rfl rfl rfl ?_
                  refine Ev.ialdN (k := 1 + (6 * (c - 1)) + 5) rfl m_read (nq_add (a := 1 + (6 * (c - 1))) (b := 5) (nq_add (a := 1) (b := 6 * (c - 1)) (rfl : (1 : Int32) = nI 1) (nq_mul (a := 6) (b := c - 1) (rfl : (6 : Int32) = nI 6) (nq_sub (a := c) (b := 1) rfl (rfl : (1 : Int32) = nI 1) (by omega)))) (rfl : (5 : Int32) = nI 5)) ⟨(by omega), by decide⟩ ?_
                  refine Ev.iconst (v := 1) rfl (by decide) ?_
                  refine Ev.iload_n rfl rfl ?_
                  refine Ev.ishl rfl ?_
                  refine Ev.ior rfl ?_
                  refine Ev.iastE (k := 1 + (6 * (c - 1)) + 5) rfl m_read (nq_add (a := 1 + (6 * (c - 1))) (b := 5) (nq_add (a := 1) (b := 6 * (c - 1)) (rfl : (1 : Int32) = nI 1) (nq_mul (a := 6) (b := c - 1) (rfl : (6 : Int32) = nI 6) (nq_sub (a := c) (b := 1) rfl (rfl : (1 : Int32) = nI 1) (by omega)))) (rfl : (5 : Int32) = nI 5)) ⟨(by omega), by decide⟩ (fun τ2 f1 m_read => ?_)
                  have m0 := frm.cell f1 m0 (by omega)
                  have m_all := frm.cell f1 m_all (by omega)
                  have m_has := frm.cell f1 m_has (by omega)
                  have fr := fr.step f1 (by omega) (by omega)
                  have hcn : chs U n s2 (i + 1) = s3 := hs3.symm
                  have hokn : Rok U n (chs U n s2 (i + 1)) := by rw [hcn]; exact hok
                  have hstn := hst
                  rw [← hcn] at hstn
                  have hrcn : (upd rq (1 + (6 * (c - 1)) + 5) ((rq (1 + (6 * (c - 1)) + 5)) ||| ((1 : Int32) <<< ((nI v3) &&& 31)))) 0 = nI c := (pk_un (by omega)).trans hrc
                  have hmn : Rw (chs U n s2 (i + 1)) = false → Rf (chs U n s2 (i + 1)) = 0 → mP (upd rq (1 + (6 * (c - 1)) + 5) ((rq (1 + (6 * (c - 1)) + 5)) ||| ((1 : Int32) <<< ((nI v3) &&& 31)))) 0 (LnQ (msk U n s2 (i + 1)) P) := by
                    intro hw9 hf9
                    obtain ⟨w2, k2, f2, g2, -⟩ := nst_f0 (s := chs U n s2 i) hw9 hf9
                    have hm := himp w2 f2
                    have hcP : P.1 = c := nI_injL (by omega) (by omega) (hm.1.symm.trans hrc)
                    have hP1 := hP1 (chs_f0 i w2 f2)
                    have u3 : v3 = tV U n (Re (chs U n s2 i)) := by rw [hv3, rvl_ok w2 k2 g2]
                    rw [u3]
                    have q := mP_Q1 (w := (1 : Int32) <<< (nI (tV U n (Re (chs U n s2 i))) &&& 31)) hm hP1 h6
                    rw [hcP] at q
                    exact q
                  refine Ev.iconst (v := 0) rfl (by decide) ?_
                  refine Ev.istore_n rfl rfl rfl ?_
                  refine Ev.goto (tgt := 17) rfl (by decide) ?_
                  exact (ih17 (0 : Int32) (i + 1) g901 A901 (upd rq (1 + (6 * (c - 1)) + 5) ((rq (1 + (6 * (c - 1)) + 5)) ||| ((1 : Int32) <<< ((nI v3) &&& 31)))) (⟨by omega, (if_neg (by omega)).symm, hrcn, ⟨_, hstn⟩, hokn, hmn⟩) (by omega) τ2 fr m0 m_all m_read m_has).fg (gs rfl (gn (gs rfl (gn gz))))
                · skip
                  refine Ev.aload_n rfl rfl ?_
                  refine Ev.getf rfl rfl m0 rfl ?_
                  refine Ev.iconst (v := 0) rfl (by decide) ?_
                  refine Ev.ialdN (k := 0) rfl m_read (rfl : (0 : Int32) = nI 0) ⟨(by omega), by decide⟩ ?_
                  rw [show rq 0 = nI c from hrc]
                  refine Ev.iconst (v := 1) rfl (by decide) ?_
                  refine Ev.bipush (v := 6) rfl (by decide) ?_
                  refine Ev.cS3 rfl rfl rfl (by decide) ⟨(Nat.le_refl _), (Nat.le_refl _)⟩ (m_in_n (K_in_nx (a := c) (b := 1) (c := 6) hc6 (by omega) (by decide) (by decide))) ?_
                  refine Ev.zeq (tgt := 97) rfl (by decide) (fun c68 => ?_) (fun c68 => absurd (by decide) c68)
                  have hcn : chs U n s2 (i + 1) = s3 := hs3.symm
                  have hokn : Rok U n (chs U n s2 (i + 1)) := by rw [hcn]; exact hok
                  have hstn := hst
                  rw [← hcn] at hstn
                  have hrcn := hrc
                  have hmn : Rw (chs U n s2 (i + 1)) = false → Rf (chs U n s2 (i + 1)) = 0 → mP rq 0 (LnQ (msk U n s2 (i + 1)) P) := by
                    intro hw9 hf9
                    obtain ⟨w2, k2, f2, g2, -⟩ := nst_f0 (s := chs U n s2 i) hw9 hf9
                    have hm := himp w2 f2
                    have hcP : P.1 = c := nI_injL (by omega) (by omega) (hm.1.symm.trans hrc)
                    have hP1 := hP1 (chs_f0 i w2 f2)
                    have u3 : v3 = tV U n (Re (chs U n s2 i)) := by rw [hv3, rvl_ok w2 k2 g2]
                    exact absurd ⟨by omega, by omega⟩ hc6
                  refine Ev.iconst (v := 0) rfl (by decide) ?_
                  refine Ev.istore_n rfl rfl rfl ?_
                  refine Ev.goto (tgt := 17) rfl (by decide) ?_
                  exact (ih17 (0 : Int32) (i + 1) g901 A901 rq (⟨by omega, (if_neg (by omega)).symm, hrcn, ⟨_, hstn⟩, hokn, hmn⟩) (by omega) τ901 fr m0 m_all m_read m_has).fg (gs rfl (gn (gs rfl (gn gz))))
    exact (hl17 _ (1 : Int32) 0 g A rd (⟨Nat.zero_le _, rfl, hrc, ⟨_, hst0⟩, hok2, hm0⟩) (Nat.lt_succ_self _) σ fr m0 m_all m_read m_has).fg (gs rfl (gn (gs rfl (gn gz))))
  · skip
    refine Ev.aload_n rfl rfl ?_
    refine Ev.iconst (v := 4) rfl (by decide) ?_
    refine Ev.iload_n rfl rfl ?_
    refine Ev.xV2u rfl rfl m0 rfl rfl (by decide) ⟨(Nat.le_refl _), (Nat.le_refl _)⟩ (m_also_ok (k := 4) m0 m_all hst hok.2.1 (by decide) (by omega) (fun a b => by obtain ⟨q, q1, q2⟩ := hpa a b; exact ⟨q, q1, Or.inl q2⟩)) (fun τ901 f9 q9 => ?_)
    obtain ⟨g901, A901, m0, m_all, hst⟩ := q9
    have m_read := frm.cell f9 m_read (by omega)
    have m_has := frm.cell f9 m_has (by omega)
    have fr := fr.step f9 (by omega) (by omega)
    have hc0 : c = 0 := nI_injL (b := 0) (by omega) (by decide) c6
    have hss : s2 = rnt s 4 a0 := by
      rw [hs2]
      unfold lstP
      rw [if_neg (by omega)]
      by_cases hf0 : Rf s = 0
      · have hcP := hcP hf0
        rw [if_pos ⟨rfl, by omega⟩]
      · rw [rnt_f hf0]
        exact ite_self _
    rw [← hss] at hst
    refine Ev.iconst (v := 1) rfl (by decide) ?_
    refine Ev.istore_n rfl rfl rfl ?_
    have hst0 := hst
    have hl17 : ∀ (m17 : Nat) (fs : Int32) (i : Nat) (gq : (Nat → Int32)) (Aq : (Nat → Int32)) (rq : (Nat → Int32)), (i ≤ e ∧ fs = (if i = 0 then 1 else 0) ∧ rq 0 = nI c ∧ (∃ abq, MSt U n A0 Aq gq (chs U n s2 i) abq) ∧ Rok U n (chs U n s2 i) ∧ (Rw (chs U n s2 i) = false → Rf (chs U n s2 i) = 0 → mP rq 0 (LnQ (msk U n s2 i) P))) → (e - i) < m17 → ∀ τ17 : ex_S, frm σ τ17 y (y + 4) → τ17.2 y = some (.inr (.inr (10, mo y gq))) → τ17.2 (y + 1) = some (.inl (0, 4500, Aq)) → τ17.2 (y + 3) = some (.inl (0, 120, rq)) → τ17.2 (y + 2) = σ.2 (y + 2) → Ev Γ 0 0 m_M_sitsLine 0 0 17 [some (.ref y), none, some (.int fs), none] [] τ17 Q := by
      intro m17
      induction m17 with
      | zero => intro fs i gq Aq rq _ hm; exact absurd hm (Nat.not_lt_zero _)
      | succ m17 ih17 =>
        intro fs i gq Aq rq hJ17 hm17
        intro τ17 fr m0 m_all m_read m_has
        obtain ⟨hie, hfs, hrc, ⟨abq, hst⟩, hok, himp⟩ := hJ17
        refine Ev.aload_n rfl rfl ?_
        refine Ev.getf rfl rfl m0 rfl ?_
        rw [hst.2.2.2.2.2.1]
        refine Ev.zne (tgt := 102) rfl (by decide) (fun c21 => ?_) (fun c21 => ?_)
        · skip
          refine Ev.ret rfl rfl (Nat.le_refl _) (Nat.le_refl _) ?_
          have hie2 : i = e := by
            by_cases q : i = 0
            · rw [q] at c21
              exact absurd (b01 c21) (by rw [show chs U n s2 0 = s2 from rfl, hw2]; decide)
            · by_cases r : i = e
              · exact r
              · have := (he.2.1 i (by omega) (by omega)).1
                rw [b01 c21] at this
                cases this
          subst hie2
          rw [← hQ]
          exact ⟨rfl, fr, _, _, _, _, m0, m_all, m_read, m_has, hst, hrc, himp⟩
        · skip
          refine Ev.iload_n rfl rfl ?_
          refine Ev.zne (tgt := 36) rfl (by decide) (fun c25 => ?_) (fun c25 => ?_)
          · skip
            have hi0 : i = 0 := Classical.byContradiction (fun h => c25 (by rw [hfs, if_neg h]))
            have hlt : i < e := by have := he.1; omega
            refine Ev.aload_n rfl rfl ?_
            refine Ev.iconst (v := 1) rfl (by decide) ?_
            refine Ev.putE rfl rfl m0 rfl rfl rfl (Nat.le_of_ble_eq_true rfl) (fun τ740 f1 q1 => ?_)
            have m0 : τ740.2 y = some (.inr (.inr (10, mo y (upd gq 9 1)))) := q1
            have m_all := frm.cell f1 m_all (by omega)
            have m_read := frm.cell f1 m_read (by omega)
            have m_has := frm.cell f1 m_has (by omega)
            have fr := fr.step f1 (by omega) (by omega)
            have hst := MSt_ab (ab1 := true) hst (show (1 : Int32) = _ from rfl)
            refine Ev.aload_n rfl rfl ?_
            refine Ev.iconst (v := 0) rfl (by decide) ?_
            refine Ev.bipush (v := 15) rfl (by decide) ?_
            refine Ev.xV2 rfl rfl m0 rfl rfl (by decide) ⟨(Nat.le_refl _), (Nat.le_refl _)⟩ (m_numb_ok m0 m_all ht hA0 hst hok (lo := 0) (G := fun v => decide (0 ≤ v) && decide (v ≤ 15)) (K_in_G ⟨by decide, by decide⟩)) (fun τ902 f9 q9 => ?_)
            obtain ⟨g902, A902, m0, m_all, hst⟩ := q9
            have m_read := frm.cell f9 m_read (by omega)
            have m_has := frm.cell f9 m_has (by omega)
            have fr := fr.step f9 (by omega) (by omega)
            obtain ⟨s3, hs3⟩ : ∃ q, q = nst U n ((fun v => decide (0 ≤ v) && decide (v ≤ 15)) (tV U n (Re (chs U n s2 i)))) (chs U n s2 i) := ⟨_, rfl⟩
            obtain ⟨ab3, hab3⟩ : ∃ q, q = rab U n (fun v => decide (0 ≤ v) && decide (v ≤ 15)) true (chs U n s2 i) := ⟨_, rfl⟩
            obtain ⟨v3, hv3⟩ : ∃ q, q = rvl U n 0 (fun v => decide (0 ≤ v) && decide (v ≤ 15)) (chs U n s2 i) := ⟨_, rfl⟩
            rw [← hs3, ← hab3] at hst
            rw [← hv3]
            have hok : Rok U n s3 := by
              rw [hs3]
              exact nst_ok ht hok
            have hr3 := rvl_le (U := U) (n := n) (lo := 0) (hi := 15) (s := (chs U n s2 i)) (by decide)
            rw [← hv3] at hr3
            refine Ev.istore_n rfl rfl rfl ?_
            refine Ev.aload_n rfl rfl ?_
            refine Ev.getf rfl rfl m0 rfl ?_
            rw [hst.2.2.2.2.2.2]
            refine Ev.zeq (tgt := 97) rfl (by decide) (fun c53 => ?_) (fun c53 => ?_)
            · skip
              have hcn : chs U n s2 (i + 1) = s3 := hs3.symm
              have hokn : Rok U n (chs U n s2 (i + 1)) := by rw [hcn]; exact hok
              have hstn := hst
              rw [← hcn] at hstn
              have hrcn := hrc
              have hmn : Rw (chs U n s2 (i + 1)) = false → Rf (chs U n s2 (i + 1)) = 0 → mP rq 0 (LnQ (msk U n s2 (i + 1)) P) := by
                intro hw9 hf9
                obtain ⟨w2, k2, f2, g2, -⟩ := nst_f0 (s := chs U n s2 i) hw9 hf9
                have hm := himp w2 f2
                have hcP : P.1 = c := nI_injL (by omega) (by omega) (hm.1.symm.trans hrc)
                have hP1 := hP1 (chs_f0 i w2 f2)
                have u3 : v3 = tV U n (Re (chs U n s2 i)) := by rw [hv3, rvl_ok w2 k2 g2]
                have hb9 := b00 c53
                rw [hab3, rab_ok w2 k2 g2] at hb9
                cases hb9
              refine Ev.iconst (v := 0) rfl (by decide) ?_
              refine Ev.istore_n rfl rfl rfl ?_
              refine Ev.goto (tgt := 17) rfl (by decide) ?_
              exact (ih17 (0 : Int32) (i + 1) g902 A902 rq (⟨by omega, (if_neg (by omega)).symm, hrcn, ⟨_, hstn⟩, hokn, hmn⟩) (by omega) τ902 fr m0 m_all m_read m_has).fg (gs rfl (gn (gs rfl (gn gz))))
            · skip
              by_cases hc6 : 1 ≤ c ∧ c ≤ 6
              · skip
                refine Ev.aload_n rfl rfl ?_
                refine Ev.getf rfl rfl m0 rfl ?_
                refine Ev.iconst (v := 0) rfl (by decide) ?_
                refine Ev.ialdN (k := 0) rfl m_read (rfl : (0 : Int32) = nI 0) ⟨(by omega), by decide⟩ ?_
                rw [show rq 0 = nI c from hrc]
                refine Ev.iconst (v := 1) rfl (by decide) ?_
                refine Ev.bipush (v := 6) rfl (by decide) ?_
                refine Ev.cS3 rfl rfl rfl (by decide) ⟨(Nat.le_refl _), (Nat.le_refl _)⟩ (m_in_y (K_in_nn (a := c) (b := 1) (c := 6) hc6.1 hc6.2 (by decide))) ?_
                refine Ev.zeq (tgt := 97) rfl (by decide) (fun c68 => absurd c68 (by decide)) (fun c68 => ?_)
                refine Ev.aload_n rfl rfl ?_
                refine Ev.getf rfl rfl m0 rfl ?_
                refine Ev.iconst (v := 1) rfl (by decide) ?_
                refine Ev.bipush (v := 6) rfl (by decide) ?_
                refine Ev.aload_n rfl rfl ?_
                refine Ev.getf rfl rfl m0 rfl ?_
                refine Ev.iconst (v := 0) rfl (by decide) ?_
                refine Ev.ialdN (k := 0) rfl m_read (rfl : (0 : Int32) = nI 0) ⟨(by omega), by decide⟩ ?_
                rw [show rq 0 = nI c from hrc]
                refine Ev.iconst (v := 1) rfl (by decide) ?_
                refine Ev.isub rfl ?_
                refine Ev.imul rfl ?_
                refine Ev.iadd rfl ?_
                refine Ev.iconst (v := 5) rfl (by decide) ?_
                refine Ev.iadd rfl ?_
                refine Ev.dup2 rfl rfl rfl ?_
                refine Ev.ialdN (k := 1 + (6 * (c - 1)) + 5) rfl m_read (nq_add (a := 1 + (6 * (c - 1))) (b := 5) (nq_add (a := 1) (b := 6 * (c - 1)) (rfl : (1 : Int32) = nI 1) (nq_mul (a := 6) (b := c - 1) (rfl : (6 : Int32) = nI 6) (nq_sub (a := c) (b := 1) rfl (rfl : (1 : Int32) = nI 1) (by omega)))) (rfl : (5 : Int32) = nI 5)) ⟨(by omega), by decide⟩ ?_
                refine Ev.iconst (v := 1) rfl (by decide) ?_
                refine Ev.iload_n rfl rfl ?_
                refine Ev.ishl rfl ?_
                refine Ev.ior rfl ?_
                refine Ev.iastE (k := 1 + (6 * (c - 1)) + 5) rfl m_read (nq_add (a := 1 + (6 * (c - 1))) (b := 5) (nq_add (a := 1) (b := 6 * (c - 1)) (rfl : (1 : Int32) = nI 1) (nq_mul (a := 6) (b := c - 1) (rfl : (6 : Int32) = nI 6) (nq_sub (a := c) (b := 1) rfl (rfl : (1 : Int32) = nI 1) (by omega)))) (rfl : (5 : Int32) = nI 5)) ⟨(by omega), by decide⟩ (fun τ3 f1 m_read => ?_)
                have m0 := frm.cell f1 m0 (by omega)
                have m_all := frm.cell f1 m_all (by omega)
                have m_has := frm.cell f1 m_has (by omega)
                have fr := fr.step f1 (by omega) (by omega)
                have hcn : chs U n s2 (i + 1) = s3 := hs3.symm
                have hokn : Rok U n (chs U n s2 (i + 1)) := by rw [hcn]; exact hok
                have hstn := hst
                rw [← hcn] at hstn
                have hrcn : (upd rq (1 + (6 * (c - 1)) + 5) ((rq (1 + (6 * (c - 1)) + 5)) ||| ((1 : Int32) <<< ((nI v3) &&& 31)))) 0 = nI c := (pk_un (by omega)).trans hrc
                have hmn : Rw (chs U n s2 (i + 1)) = false → Rf (chs U n s2 (i + 1)) = 0 → mP (upd rq (1 + (6 * (c - 1)) + 5) ((rq (1 + (6 * (c - 1)) + 5)) ||| ((1 : Int32) <<< ((nI v3) &&& 31)))) 0 (LnQ (msk U n s2 (i + 1)) P) := by
                  intro hw9 hf9
                  obtain ⟨w2, k2, f2, g2, -⟩ := nst_f0 (s := chs U n s2 i) hw9 hf9
                  have hm := himp w2 f2
                  have hcP : P.1 = c := nI_injL (by omega) (by omega) (hm.1.symm.trans hrc)
                  have hP1 := hP1 (chs_f0 i w2 f2)
                  have u3 : v3 = tV U n (Re (chs U n s2 i)) := by rw [hv3, rvl_ok w2 k2 g2]
                  rw [u3]
                  have q := mP_Q1 (w := (1 : Int32) <<< (nI (tV U n (Re (chs U n s2 i))) &&& 31)) hm hP1 h6
                  rw [hcP] at q
                  exact q
                refine Ev.iconst (v := 0) rfl (by decide) ?_
                refine Ev.istore_n rfl rfl rfl ?_
                refine Ev.goto (tgt := 17) rfl (by decide) ?_
                exact (ih17 (0 : Int32) (i + 1) g902 A902 (upd rq (1 + (6 * (c - 1)) + 5) ((rq (1 + (6 * (c - 1)) + 5)) ||| ((1 : Int32) <<< ((nI v3) &&& 31)))) (⟨by omega, (if_neg (by omega)).symm, hrcn, ⟨_, hstn⟩, hokn, hmn⟩) (by omega) τ3 fr m0 m_all m_read m_has).fg (gs rfl (gn (gs rfl (gn gz))))
              · skip
                refine Ev.aload_n rfl rfl ?_
                refine Ev.getf rfl rfl m0 rfl ?_
                refine Ev.iconst (v := 0) rfl (by decide) ?_
                refine Ev.ialdN (k := 0) rfl m_read (rfl : (0 : Int32) = nI 0) ⟨(by omega), by decide⟩ ?_
                rw [show rq 0 = nI c from hrc]
                refine Ev.iconst (v := 1) rfl (by decide) ?_
                refine Ev.bipush (v := 6) rfl (by decide) ?_
                refine Ev.cS3 rfl rfl rfl (by decide) ⟨(Nat.le_refl _), (Nat.le_refl _)⟩ (m_in_n (K_in_nx (a := c) (b := 1) (c := 6) hc6 (by omega) (by decide) (by decide))) ?_
                refine Ev.zeq (tgt := 97) rfl (by decide) (fun c68 => ?_) (fun c68 => absurd (by decide) c68)
                have hcn : chs U n s2 (i + 1) = s3 := hs3.symm
                have hokn : Rok U n (chs U n s2 (i + 1)) := by rw [hcn]; exact hok
                have hstn := hst
                rw [← hcn] at hstn
                have hrcn := hrc
                have hmn : Rw (chs U n s2 (i + 1)) = false → Rf (chs U n s2 (i + 1)) = 0 → mP rq 0 (LnQ (msk U n s2 (i + 1)) P) := by
                  intro hw9 hf9
                  obtain ⟨w2, k2, f2, g2, -⟩ := nst_f0 (s := chs U n s2 i) hw9 hf9
                  have hm := himp w2 f2
                  have hcP : P.1 = c := nI_injL (by omega) (by omega) (hm.1.symm.trans hrc)
                  have hP1 := hP1 (chs_f0 i w2 f2)
                  have u3 : v3 = tV U n (Re (chs U n s2 i)) := by rw [hv3, rvl_ok w2 k2 g2]
                  exact absurd ⟨by omega, by omega⟩ hc6
                refine Ev.iconst (v := 0) rfl (by decide) ?_
                refine Ev.istore_n rfl rfl rfl ?_
                refine Ev.goto (tgt := 17) rfl (by decide) ?_
                exact (ih17 (0 : Int32) (i + 1) g902 A902 rq (⟨by omega, (if_neg (by omega)).symm, hrcn, ⟨_, hstn⟩, hokn, hmn⟩) (by omega) τ902 fr m0 m_all m_read m_has).fg (gs rfl (gn (gs rfl (gn gz))))
          · skip
            refine Ev.aload_n rfl rfl ?_
            refine Ev.getf rfl rfl m0 rfl ?_
            rw [hst.2.2.2.1.2.2.1]
            refine Ev.iconst (v := 1) rfl (by decide) ?_
            refine Ev.jne (tgt := 102) rfl (by decide) (fun c33 => ?_) (fun c33 => ?_)
            · skip
              refine Ev.ret rfl rfl (Nat.le_refl _) (Nat.le_refl _) ?_
              have hi0 : ¬ i = 0 := fun h => by
                rw [hfs, if_pos h] at c25
                exact absurd c25 (by decide)
              have hie2 : i = e := by
                by_cases r : i = e
                · exact r
                · exact absurd (congrArg nI (he.2.1 i (by omega) (by omega)).2) c33
              subst hie2
              rw [← hQ]
              exact ⟨rfl, fr, _, _, _, _, m0, m_all, m_read, m_has, hst, hrc, himp⟩
            · skip
              have hi0 : ¬ i = 0 := fun h => by
                rw [hfs, if_pos h] at c25
                exact absurd c25 (by decide)
              have hk1 : tK U n (Re (chs U n s2 i)) = 1 := nI_injL (b := 1) (by have := tK_le (U := U) (n := n) (e := Re (chs U n s2 i)); omega) (by decide) c33
              have hlt : i < e := by
                by_cases q : i = e
                · rcases he.2.2 with h | h
                  · rw [← q, b00 c21] at h; cases h
                  · rw [← q] at h; exact absurd hk1 h
                · omega
              refine Ev.aload_n rfl rfl ?_
              refine Ev.iconst (v := 1) rfl (by decide) ?_
              refine Ev.putE rfl rfl m0 rfl rfl rfl (Nat.le_of_ble_eq_true rfl) (fun τ740 f1 q1 => ?_)
              have m0 : τ740.2 y = some (.inr (.inr (10, mo y (upd gq 9 1)))) := q1
              have m_all := frm.cell f1 m_all (by omega)
              have m_read := frm.cell f1 m_read (by omega)
              have m_has := frm.cell f1 m_has (by omega)
              have fr := fr.step f1 (by omega) (by omega)
              have hst := MSt_ab (ab1 := true) hst (show (1 : Int32) = _ from rfl)
              refine Ev.aload_n rfl rfl ?_
              refine Ev.iconst (v := 0) rfl (by decide) ?_
              refine Ev.bipush (v := 15) rfl (by decide) ?_
              refine Ev.xV2 rfl rfl m0 rfl rfl (by decide) ⟨(Nat.le_refl _), (Nat.le_refl _)⟩ (m_numb_ok m0 m_all ht hA0 hst hok (lo := 0) (G := fun v => decide (0 ≤ v) && decide (v ≤ 15)) (K_in_G ⟨by decide, by decide⟩)) (fun τ902 f9 q9 => ?_)
              obtain ⟨g902, A902, m0, m_all, hst⟩ := q9
              have m_read := frm.cell f9 m_read (by omega)
              have m_has := frm.cell f9 m_has (by omega)
              have fr := fr.step f9 (by omega) (by omega)
              obtain ⟨s3, hs3⟩ : ∃ q, q = nst U n ((fun v => decide (0 ≤ v) && decide (v ≤ 15)) (tV U n (Re (chs U n s2 i)))) (chs U n s2 i) := ⟨_, rfl⟩
              obtain ⟨ab3, hab3⟩ : ∃ q, q = rab U n (fun v => decide (0 ≤ v) && decide (v ≤ 15)) true (chs U n s2 i) := ⟨_, rfl⟩
              obtain ⟨v3, hv3⟩ : ∃ q, q = rvl U n 0 (fun v => decide (0 ≤ v) && decide (v ≤ 15)) (chs U n s2 i) := ⟨_, rfl⟩
              rw [← hs3, ← hab3] at hst
              rw [← hv3]
              have hok : Rok U n s3 := by
                rw [hs3]
                exact nst_ok ht hok
              have hr3 := rvl_le (U := U) (n := n) (lo := 0) (hi := 15) (s := (chs U n s2 i)) (by decide)
              rw [← hv3] at hr3
              refine Ev.istore_n rfl rfl rfl ?_
              refine Ev.aload_n rfl rfl ?_
              refine Ev.getf rfl rfl m0 rfl ?_
              rw [hst.2.2.2.2.2.2]
              refine Ev.zeq (tgt := 97) rfl (by decide) (fun c53 => ?_) (fun c53 => ?_)
              · skip
                have hcn : chs U n s2 (i + 1) = s3 := hs3.symm
                have hokn : Rok U n (chs U n s2 (i + 1)) := by rw [hcn]; exact hok
                have hstn := hst
                rw [← hcn] at hstn
                have hrcn := hrc
                have hmn : Rw (chs U n s2 (i + 1)) = false → Rf (chs U n s2 (i + 1)) = 0 → mP rq 0 (LnQ (msk U n s2 (i + 1)) P) := by
                  intro hw9 hf9
                  obtain ⟨w2, k2, f2, g2, -⟩ := nst_f0 (s := chs U n s2 i) hw9 hf9
                  have hm := himp w2 f2
                  have hcP : P.1 = c := nI_injL (by omega) (by omega) (hm.1.symm.trans hrc)
                  have hP1 := hP1 (chs_f0 i w2 f2)
                  have u3 : v3 = tV U n (Re (chs U n s2 i)) := by rw [hv3, rvl_ok w2 k2 g2]
                  have hb9 := b00 c53
                  rw [hab3, rab_ok w2 k2 g2] at hb9
                  cases hb9
                refine Ev.iconst (v := 0) rfl (by decide) ?_
                refine Ev.istore_n rfl rfl rfl ?_
                refine Ev.goto (tgt := 17) rfl (by decide) ?_
                exact (ih17 (0 : Int32) (i + 1) g902 A902 rq (⟨by omega, (if_neg (by omega)).symm, hrcn, ⟨_, hstn⟩, hokn, hmn⟩) (by omega) τ902 fr m0 m_all m_read m_has).fg (gs rfl (gn (gs rfl (gn gz))))
              · skip
                by_cases hc6 : 1 ≤ c ∧ c ≤ 6
                · skip
                  refine Ev.aload_n rfl rfl ?_
                  refine Ev.getf rfl rfl m0 rfl ?_
                  refine Ev.iconst (v := 0) rfl (by decide) ?_
                  refine Ev.ialdN (k := 0) rfl m_read (rfl : (0 : Int32) = nI 0) ⟨(by omega), by decide⟩ ?_
                  rw [show rq 0 = nI c from hrc]
                  refine Ev.iconst (v := 1) rfl (by decide) ?_
                  refine Ev.bipush (v := 6) rfl (by decide) ?_
                  refine Ev.cS3 rfl rfl rfl (by decide) ⟨(Nat.le_refl _), (Nat.le_refl _)⟩ (m_in_y (K_in_nn (a := c) (b := 1) (c := 6) hc6.1 hc6.2 (by decide))) ?_
                  refine Ev.zeq (tgt := 97) rfl (by decide) (fun c68 => absurd c68 (by decide)) (fun c68 => ?_)
                  refine Ev.aload_n rfl rfl ?_
                  refine Ev.getf rfl rfl m0 rfl ?_
                  refine Ev.iconst (v := 1) rfl (by decide) ?_
                  refine Ev.bipush (v := 6) rfl (by decide) ?_
                  refine Ev.aload_n rfl rfl ?_
                  refine Ev.getf rfl rfl m0 rfl ?_
                  refine Ev.iconst (v := 0) rfl (by decide) ?_
                  refine Ev.ialdN (k := 0) rfl m_read (rfl : (0 : Int32) = nI 0) ⟨(by omega), by decide⟩ ?_
                  rw [show rq 0 = nI c from hrc]
                  refine Ev.iconst (v := 1) rfl (by decide) ?_
                  refine Ev.isub rfl ?_
                  refine Ev.imul rfl ?_
                  refine Ev.iadd rfl ?_
                  refine Ev.iconst (v := 5) rfl (by decide) ?_
                  refine Ev.iadd rfl ?_
                  refine Ev.dup2 rfl rfl rfl ?_
                  refine Ev.ialdN (k := 1 + (6 * (c - 1)) + 5) rfl m_read (nq_add (a := 1 + (6 * (c - 1))) (b := 5) (nq_add (a := 1) (b := 6 * (c - 1)) (rfl : (1 : Int32) = nI 1) (nq_mul (a := 6) (b := c - 1) (rfl : (6 : Int32) = nI 6) (nq_sub (a := c) (b := 1) rfl (rfl : (1 : Int32) = nI 1) (by omega)))) (rfl : (5 : Int32) = nI 5)) ⟨(by omega), by decide⟩ ?_
                  refine Ev.iconst (v := 1) rfl (by decide) ?_
                  refine Ev.iload_n rfl rfl ?_
                  refine Ev.ishl rfl ?_
                  refine Ev.ior rfl ?_
                  refine Ev.iastE (k := 1 + (6 * (c - 1)) + 5) rfl m_read (nq_add (a := 1 + (6 * (c - 1))) (b := 5) (nq_add (a := 1) (b := 6 * (c - 1)) (rfl : (1 : Int32) = nI 1) (nq_mul (a := 6) (b := c - 1) (rfl : (6 : Int32) = nI 6) (nq_sub (a := c) (b := 1) rfl (rfl : (1 : Int32) = nI 1) (by omega)))) (rfl : (5 : Int32) = nI 5)) ⟨(by omega), by decide⟩ (fun τ4 f1 m_read => ?_)
                  have m0 := frm.cell f1 m0 (by omega)
                  have m_all := frm.cell f1 m_all (by omega)
                  have m_has := frm.cell f1 m_has (by omega)
                  have fr := fr.step f1 (by omega) (by omega)
                  have hcn : chs U n s2 (i + 1) = s3 := hs3.symm
                  have hokn : Rok U n (chs U n s2 (i + 1)) := by rw [hcn]; exact hok
                  have hstn := hst
                  rw [← hcn] at hstn
                  have hrcn : (upd rq (1 + (6 * (c - 1)) + 5) ((rq (1 + (6 * (c - 1)) + 5)) ||| ((1 : Int32) <<< ((nI v3) &&& 31)))) 0 = nI c := (pk_un (by omega)).trans hrc
                  have hmn : Rw (chs U n s2 (i + 1)) = false → Rf (chs U n s2 (i + 1)) = 0 → mP (upd rq (1 + (6 * (c - 1)) + 5) ((rq (1 + (6 * (c - 1)) + 5)) ||| ((1 : Int32) <<< ((nI v3) &&& 31)))) 0 (LnQ (msk U n s2 (i + 1)) P) := by
                    intro hw9 hf9
                    obtain ⟨w2, k2, f2, g2, -⟩ := nst_f0 (s := chs U n s2 i) hw9 hf9
                    have hm := himp w2 f2
                    have hcP : P.1 = c := nI_injL (by omega) (by omega) (hm.1.symm.trans hrc)
                    have hP1 := hP1 (chs_f0 i w2 f2)
                    have u3 : v3 = tV U n (Re (chs U n s2 i)) := by rw [hv3, rvl_ok w2 k2 g2]
                    rw [u3]
                    have q := mP_Q1 (w := (1 : Int32) <<< (nI (tV U n (Re (chs U n s2 i))) &&& 31)) hm hP1 h6
                    rw [hcP] at q
                    exact q
                  refine Ev.iconst (v := 0) rfl (by decide) ?_
                  refine Ev.istore_n rfl rfl rfl ?_
                  refine Ev.goto (tgt := 17) rfl (by decide) ?_
                  exact (ih17 (0 : Int32) (i + 1) g902 A902 (upd rq (1 + (6 * (c - 1)) + 5) ((rq (1 + (6 * (c - 1)) + 5)) ||| ((1 : Int32) <<< ((nI v3) &&& 31)))) (⟨by omega, (if_neg (by omega)).symm, hrcn, ⟨_, hstn⟩, hokn, hmn⟩) (by omega) τ4 fr m0 m_all m_read m_has).fg (gs rfl (gn (gs rfl (gn gz))))
                · skip
                  refine Ev.aload_n rfl rfl ?_
                  refine Ev.getf rfl rfl m0 rfl ?_
                  refine Ev.iconst (v := 0) rfl (by decide) ?_
                  refine Ev.ialdN (k := 0) rfl m_read (rfl : (0 : Int32) = nI 0) ⟨(by omega), by decide⟩ ?_
                  rw [show rq 0 = nI c from hrc]
                  refine Ev.iconst (v := 1) rfl (by decide) ?_
                  refine Ev.bipush (v := 6) rfl (by decide) ?_
                  refine Ev.cS3 rfl rfl rfl (by decide) ⟨(Nat.le_refl _), (Nat.le_refl _)⟩ (m_in_n (K_in_nx (a := c) (b := 1) (c := 6) hc6 (by omega) (by decide) (by decide))) ?_
                  refine Ev.zeq (tgt := 97) rfl (by decide) (fun c68 => ?_) (fun c68 => absurd (by decide) c68)
                  have hcn : chs U n s2 (i + 1) = s3 := hs3.symm
                  have hokn : Rok U n (chs U n s2 (i + 1)) := by rw [hcn]; exact hok
                  have hstn := hst
                  rw [← hcn] at hstn
                  have hrcn := hrc
                  have hmn : Rw (chs U n s2 (i + 1)) = false → Rf (chs U n s2 (i + 1)) = 0 → mP rq 0 (LnQ (msk U n s2 (i + 1)) P) := by
                    intro hw9 hf9
                    obtain ⟨w2, k2, f2, g2, -⟩ := nst_f0 (s := chs U n s2 i) hw9 hf9
                    have hm := himp w2 f2
                    have hcP : P.1 = c := nI_injL (by omega) (by omega) (hm.1.symm.trans hrc)
                    have hP1 := hP1 (chs_f0 i w2 f2)
                    have u3 : v3 = tV U n (Re (chs U n s2 i)) := by rw [hv3, rvl_ok w2 k2 g2]
                    exact absurd ⟨by omega, by omega⟩ hc6
                  refine Ev.iconst (v := 0) rfl (by decide) ?_
                  refine Ev.istore_n rfl rfl rfl ?_
                  refine Ev.goto (tgt := 17) rfl (by decide) ?_
                  exact (ih17 (0 : Int32) (i + 1) g902 A902 rq (⟨by omega, (if_neg (by omega)).symm, hrcn, ⟨_, hstn⟩, hokn, hmn⟩) (by omega) τ902 fr m0 m_all m_read m_has).fg (gs rfl (gn (gs rfl (gn gz))))
    exact (hl17 _ (1 : Int32) 0 g901 A901 rd (⟨Nat.zero_le _, rfl, hrc, ⟨_, hst0⟩, hok2, hm0⟩) (Nat.lt_succ_self _) τ901 fr m0 m_all m_read m_has).fg (gs rfl (gn (gs rfl (gn gz))))
end
end
