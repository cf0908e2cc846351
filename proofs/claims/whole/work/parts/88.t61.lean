/-! Texts (reference): a line, whichever it is; a text. -/
noncomputable section
section
variable {Γ : ex_G} {σ : ex_S} {x q a p y : Nat} {S : Sch} {T : Tol} {P : Pln} {g A : Nat → Int32}
variable {T : Tol} {P : Pln} {U : Nat → Nat} {n : Nat} {A0 : Nat → Int32} {s : Rs} {ab : Bool}
theorem m_schL_any (m0 : σ.2 y = some (.inr (.inr (10, mo y g)))) (m_all : σ.2 (y + 1) = some (.inl (0, 4500, A))) {rd : Nat → Int32} (m_read : σ.2 (y + 3) = some (.inl (0, 120, rd))) (ht : txt U n) (hA0 : ∀ p, p < n → A0 (10 + p) = nI (U p)) (hst : MSt0 U n A0 A g s) (hok : Rok U n s) (hw : Rw s = false) (hk : tK U n (Re s) = 3) (h1 : 1 ≤ tW U n (Re s)) (h2 : tW U n (Re s) ≤ 15) (hwS : wS S) {b : Nat} (hb : b ≤ 600) (hSF : SF b rd) (hrd : Rf s = 0 → mS rd 0 S) : RetX Γ m_M_schoolLine [.ref y] σ y (y + 4) none (fun τ => ∃ (g1 A1 rd1 : Nat → Int32) (ab1 : Bool), τ.2 y = some (.inr (.inr (10, mo y g1))) ∧ τ.2 (y + 1) = some (.inl (0, 4500, A1)) ∧ τ.2 (y + 3) = some (.inl (0, 120, rd1)) ∧ τ.2 (y + 2) = σ.2 (y + 2) ∧ MSt U n A0 A1 g1 (rel U n (lnX U n (tW U n (Re s) - 1) S s)) ab1 ∧ SF (b + 1) rd1 ∧ (Rw (lnX U n (tW U n (Re s) - 1) S s) = false → Rf (lnX U n (tW U n (Re s) - 1) S s) = 0 → mS rd1 0 (LnF (tW U n (Re s) - 1) (lnN U n (tW U n (Re s) - 1) S s) S))) := by
  obtain ⟨k, hW⟩ : ∃ k, tW U n (Re s) = k + 1 := ⟨tW U n (Re s) - 1, by omega⟩
  rw [show tW U n (Re s) - 1 = k by omega]
  have hk15 : k < 15 := by omega
  match k, hk15, hW with
  | 0, _, hW => exact m_schL0_ok m0 m_all m_read ht hA0 hst hok hw hk hW hwS hb hSF hrd
  | 1, _, hW => exact m_schL1_ok m0 m_all m_read ht hA0 hst hok hw hk hW hwS hb hSF hrd
  | 2, _, hW => exact m_schL2_ok m0 m_all m_read ht hA0 hst hok hw hk hW hwS hb hSF hrd
  | 3, _, hW => exact m_schL3_ok m0 m_all m_read ht hA0 hst hok hw hk hW hwS hb hSF hrd
  | 4, _, hW => exact m_schL4_ok m0 m_all m_read ht hA0 hst hok hw hk hW hwS hb hSF hrd
  | 5, _, hW => exact m_schL5_ok m0 m_all m_read ht hA0 hst hok hw hk hW hwS hb hSF hrd
  | 6, _, hW => exact m_schL6_ok m0 m_all m_read ht hA0 hst hok hw hk hW hwS hb hSF hrd
  | 7, _, hW => exact m_schL7_ok m0 m_all m_read ht hA0 hst hok hw hk hW hwS hb hSF hrd
  | 8, _, hW => exact m_schL8_ok m0 m_all m_read ht hA0 hst hok hw hk hW hwS hb hSF hrd
  | 9, _, hW => exact m_schL9_ok m0 m_all m_read ht hA0 hst hok hw hk hW hwS hb hSF hrd
  | 10, _, hW => exact m_schL10_ok m0 m_all m_read ht hA0 hst hok hw hk hW hwS hb hSF hrd
  | 11, _, hW => exact m_schL11_ok m0 m_all m_read ht hA0 hst hok hw hk hW hwS hb hSF hrd
  | 12, _, hW => exact m_schL12_ok m0 m_all m_read ht hA0 hst hok hw hk hW hwS hb hSF hrd
  | 13, _, hW => exact m_schL13_ok m0 m_all m_read ht hA0 hst hok hw hk hW hwS hb hSF hrd
  | 14, _, hW => exact m_schL14_ok m0 m_all m_read ht hA0 hst hok hw hk hW hwS hb hSF hrd
theorem m_plL_any (m0 : σ.2 y = some (.inr (.inr (10, mo y g)))) (m_all : σ.2 (y + 1) = some (.inl (0, 4500, A))) {rd : Nat → Int32} (m_read : σ.2 (y + 3) = some (.inl (0, 120, rd))) (ht : txt U n) (hA0 : ∀ p, p < n → A0 (10 + p) = nI (U p)) (hst : MSt0 U n A0 A g s) (hok : Rok U n s) (hw : Rw s = false) (hk : tK U n (Re s) = 3) (h1 : 15 ≤ tW U n (Re s)) (h2 : tW U n (Re s) ≤ 20) (h6 : P.1 ≤ 6) {c : Nat} (hrc : rd 0 = nI c) (hcb : c ≤ 600) (hrd : Rf s = 0 → mP rd 0 P) : RetX Γ m_M_planLine [.ref y] σ y (y + 4) none (fun τ => ∃ (g1 A1 rd1 : Nat → Int32) (ab1 : Bool), τ.2 y = some (.inr (.inr (10, mo y g1))) ∧ τ.2 (y + 1) = some (.inl (0, 4500, A1)) ∧ τ.2 (y + 3) = some (.inl (0, 120, rd1)) ∧ τ.2 (y + 2) = σ.2 (y + 2) ∧ MSt U n A0 A1 g1 (rel U n (lpE U n (wkP (tW U n (Re s))) P s)) ab1 ∧ (∃ c1, rd1 0 = nI c1 ∧ c1 ≤ c + 1 ∧ (Rw (lpE U n (wkP (tW U n (Re s))) P s) = false → Rf (lpE U n (wkP (tW U n (Re s))) P s) = 0 → mP rd1 0 (LpF U n (wkP (tW U n (Re s))) P s)))) := by
  rcases (show tW U n (Re s) = 15 ∨ tW U n (Re s) = 16 ∨ tW U n (Re s) = 17 ∨ tW U n (Re s) = 18 ∨ tW U n (Re s) = 19 ∨ tW U n (Re s) = 20 by omega) with hW | hW | hW | hW | hW | hW
  · rw [show wkP (tW U n (Re s)) = 18 from by rw [hW]; rfl]
    have h1 : lpE U n 18 P s = lpX U n 18 P s := if_neg (by decide)
    have h2 : LpF U n 18 P s = LnP 18 (lpN U n 18 P s) P := if_neg (by decide)
    rw [h1, h2]
    refine Ret.imp (m_plL18_ok m0 m_all m_read ht hA0 hst hok hw hk hW h6 hrc hcb hrd) (fun r τ q => ?_)
    obtain ⟨q1, q2, g1, A1, rd1, ab1, a1, a2, a3, a4, a5, a6, a7⟩ := q
    exact ⟨q1, q2, g1, A1, rd1, ab1, a1, a2, a3, a4, a5, _, a6, by omega, a7⟩
  · rw [show wkP (tW U n (Re s)) = 15 from by rw [hW]; rfl]
    have h1 : lpE U n 15 P s = lpX U n 15 P s := if_neg (by decide)
    have h2 : LpF U n 15 P s = LnP 15 (lpN U n 15 P s) P := if_neg (by decide)
    rw [h1, h2]
    refine Ret.imp (m_plL15_ok m0 m_all m_read ht hA0 hst hok hw hk hW h6 hrc hcb hrd) (fun r τ q => ?_)
    obtain ⟨q1, q2, g1, A1, rd1, ab1, a1, a2, a3, a4, a5, a6, a7⟩ := q
    exact ⟨q1, q2, g1, A1, rd1, ab1, a1, a2, a3, a4, a5, _, a6, by omega, a7⟩
  · rw [show wkP (tW U n (Re s)) = 17 from by rw [hW]; rfl]
    have h1 : lpE U n 17 P s = lpX U n 17 P s := if_neg (by decide)
    have h2 : LpF U n 17 P s = LnP 17 (lpN U n 17 P s) P := if_neg (by decide)
    rw [h1, h2]
    refine Ret.imp (m_plL17_ok m0 m_all m_read ht hA0 hst hok hw hk hW h6 hrc hcb hrd) (fun r τ q => ?_)
    obtain ⟨q1, q2, g1, A1, rd1, ab1, a1, a2, a3, a4, a5, a6, a7⟩ := q
    exact ⟨q1, q2, g1, A1, rd1, ab1, a1, a2, a3, a4, a5, _, a6, by omega, a7⟩
  · rw [show wkP (tW U n (Re s)) = 19 from by rw [hW]; rfl]
    have h1 : lpE U n 19 P s = lpX U n 19 P s := if_neg (by decide)
    have h2 : LpF U n 19 P s = LnP 19 (lpN U n 19 P s) P := if_neg (by decide)
    rw [h1, h2]
    refine Ret.imp (m_plL19_ok m0 m_all m_read ht hA0 hst hok hw hk hW h6 hrc hcb hrd) (fun r τ q => ?_)
    obtain ⟨q1, q2, g1, A1, rd1, ab1, a1, a2, a3, a4, a5, a6, a7⟩ := q
    exact ⟨q1, q2, g1, A1, rd1, ab1, a1, a2, a3, a4, a5, _, a6, by omega, a7⟩
  · rw [show wkP (tW U n (Re s)) = 16 from by rw [hW]; rfl]
    have h1 : lpE U n 16 P s = lpX U n 16 P s := if_neg (by decide)
    have h2 : LpF U n 16 P s = LnP 16 (lpN U n 16 P s) P := if_neg (by decide)
    rw [h1, h2]
    refine Ret.imp (m_plL16_ok m0 m_all m_read ht hA0 hst hok hw hk hW h6 hrc hcb hrd) (fun r τ q => ?_)
    obtain ⟨q1, q2, g1, A1, rd1, ab1, a1, a2, a3, a4, a5, a6, a7⟩ := q
    exact ⟨q1, q2, g1, A1, rd1, ab1, a1, a2, a3, a4, a5, _, a6, by omega, a7⟩
  · rw [show wkP (tW U n (Re s)) = 20 from by rw [hW]; rfl]
    have h1 : lpE U n 20 P s = chs U n (lpS U n 20 P s) (sitC U n (lpS U n 20 P s)) := if_pos rfl
    have h2 : LpF U n 20 P s = LnQ (msk U n (lpS U n 20 P s) (sitC U n (lpS U n 20 P s))) P := if_pos rfl
    rw [h1, h2]
    refine Ret.imp (m_plL20_ok m0 m_all m_read ht hA0 hst hok hw hk hW h6 hrc hcb hrd) (fun r τ q => ?_)
    obtain ⟨q1, q2, g1, A1, rd1, ab1, a1, a2, a3, a4, a5, a6, a7⟩ := q
    exact ⟨q1, q2, g1, A1, rd1, ab1, a1, a2, a3, a4, a5, _, a6, by omega, a7⟩
theorem m_text0_ok (hM : isM σ y g A) {rd : Nat → Int32} (m_read : σ.2 (y + 3) = some (.inl (0, 120, rd))) (hT : mT A 0 T) (hw : wT T) (ht : txt U n) (hn : n = tN T) (hA : ∀ p, p < n → A (10 + p) = nI (U p)) {w : Int32} {k : Nat} (hp : plc w (tSn T) k) (S0 : Sch) {m : Nat} (hm : tEnd U n (fun i => (qS U n (clS S0) i).1) m) : RetX Γ m_M_text [.ref y, .int 0, .int w] σ y (y + 4) (some (.int (if txF (qS U n (clS S0) m).1 = 0 then nI k else -1))) (fun τ => ∃ (g1 A1 rd1 : Nat → Int32), τ.2 y = some (.inr (.inr (10, mo y g1))) ∧ τ.2 (y + 1) = some (.inl (0, 4500, A1)) ∧ τ.2 (y + 3) = some (.inl (0, 120, rd1)) ∧ τ.2 (y + 2) = σ.2 (y + 2) ∧ (∀ q, 1090 ≤ q → q < 4360 → A1 q = A q) ∧ mT A1 0 (if txF (qS U n (clS S0) m).1 = 0 then K_putS (T_tx T 0 (-1)) k (qS U n (clS S0) m).2 else T_tx T (nI (txF (qS U n (clS S0) m).1)) (txQ U n (qS U n (clS S0) m).1))) := by
  obtain ⟨m0, m_all⟩ := id hM
  have hn6 := ht.1
  have hA2 : A 2 = nI n := by rw [hn]; exact hT.2.2.1
  have hm : tEnd U n (fun i => (qS U n (clS S0) i).1) m := hm
  have hwq : ∀ i, i ≤ m → wS (qS U n (clS S0) i).2 := by
    intro i
    induction i with
    | zero => exact fun _ => clS_wS S0
    | succ i ih => exact fun hi => stS_wS ht (hm.2.2.1 i (by omega)) (hm.1 i (by omega)).1 (hm.1 i (by omega)).2 (ih (by omega))
  obtain ⟨A0, hA0e⟩ : ∃ q, q = (upd (upd (upd A 2 0) 3 0) 4 (-1)) := ⟨_, rfl⟩
  have hA0 : ∀ p, p < n → A0 (10 + p) = nI (U p) := fun p hp => by rw [hA0e]; exact (pk_un (by omega)).trans ((pk_un (by omega)).trans ((pk_un (by omega)).trans (hA p hp)))
  have hA0q : ∀ q, q ≠ 2 → q ≠ 3 → q ≠ 4 → A0 q = A q := fun q a b c => by
    rw [hA0e]
    exact (pk_un c).trans ((pk_un b).trans (pk_un a))
  have hA02 : A0 2 = 0 := by
    rw [hA0e]
    exact (pk_un (by decide)).trans ((pk_un (by decide)).trans pk_us)
  unfold RetX
  generalize hQ : ((fun (r0 : Option Value) (τ : ex_S) => r0 = some (.int (if txF (qS U n (clS S0) m).1 = 0 then nI k else -1)) ∧ frm σ τ y (y + 4) ∧ (fun τ : ex_S => ∃ (g1 A1 rd1 : Nat → Int32), τ.2 y = some (.inr (.inr (10, mo y g1))) ∧ τ.2 (y + 1) = some (.inl (0, 4500, A1)) ∧ τ.2 (y + 3) = some (.inl (0, 120, rd1)) ∧ τ.2 (y + 2) = σ.2 (y + 2) ∧ (∀ q, 1090 ≤ q → q < 4360 → A1 q = A q) ∧ mT A1 0 (if txF (qS U n (clS S0) m).1 = 0 then K_putS (T_tx T 0 (-1)) k (qS U n (clS S0) m).2 else T_tx T (nI (txF (qS U n (clS S0) m).1)) (txQ U n (qS U n (clS S0) m).1))) τ)) = Q
  refine Ret.start pm_191 rfl ?_
  have fr : frm σ σ y (y + 4) := frm.rf
  have m_has : σ.2 (y + 2) = σ.2 (y + 2) := rfl
  refine Ev.aload_n rfl rfl ?_
  refine Ev.aload_n rfl rfl ?_
  refine Ev.getf rfl rfl m0 rfl ?_
  refine Ev.iconst (v := 2) rfl (by decide) ?_
  refine Ev.ialdN (k := 2) rfl m_all (rfl : (2 : Int32) = nI 2) ⟨(by omega), by decide⟩ ?_
  rw [hA2]
  refine Ev.putE rfl rfl m0 rfl rfl rfl (Nat.le_of_ble_eq_true rfl) (fun τ701 f1 q1 => ?_)
  have m0 : τ701.2 y = some (.inr (.inr (10, mo y (upd g 2 (nI n))))) := q1
  have m_all := frm.cell f1 m_all (by omega)
  have m_read := frm.cell f1 m_read (by omega)
  have m_has := frm.cell f1 m_has (by omega)
  have fr := fr.step f1 (by omega) (by omega)
  refine Ev.aload_n rfl rfl ?_
  refine Ev.getf rfl rfl m0 rfl ?_
  refine Ev.iconst (v := 2) rfl (by decide) ?_
  refine Ev.iconst (v := 0) rfl (by decide) ?_
  refine Ev.iastE (k := 2) rfl m_all (rfl : (2 : Int32) = nI 2) ⟨(by omega), by decide⟩ (fun τ1 f1 m_all => ?_)
  have m0 := frm.cell f1 m0 (by omega)
  have m_read := frm.cell f1 m_read (by omega)
  have m_has := frm.cell f1 m_has (by omega)
  have fr := fr.step f1 (by omega) (by omega)
  refine Ev.aload_n rfl rfl ?_
  refine Ev.iconst (v := 0) rfl (by decide) ?_
  refine Ev.putE rfl rfl m0 rfl rfl rfl (Nat.le_of_ble_eq_true rfl) (fun τ702 f1 q1 => ?_)
  have m0 : τ702.2 y = some (.inr (.inr (10, mo y (upd (upd g 2 (nI n)) 3 (0 : Int32))))) := q1
  have m_all := frm.cell f1 m_all (by omega)
  have m_read := frm.cell f1 m_read (by omega)
  have m_has := frm.cell f1 m_has (by omega)
  have fr := fr.step f1 (by omega) (by omega)
  refine Ev.aload_n rfl rfl ?_
  refine Ev.getf rfl rfl m0 rfl ?_
  refine Ev.iconst (v := 3) rfl (by decide) ?_
  refine Ev.iconst (v := 0) rfl (by decide) ?_
  refine Ev.iastE (k := 3) rfl m_all (rfl : (3 : Int32) = nI 3) ⟨(by omega), by decide⟩ (fun τ2 f1 m_all => ?_)
  have m0 := frm.cell f1 m0 (by omega)
  have m_read := frm.cell f1 m_read (by omega)
  have m_has := frm.cell f1 m_has (by omega)
  have fr := fr.step f1 (by omega) (by omega)
  refine Ev.aload_n rfl rfl ?_
  refine Ev.getf rfl rfl m0 rfl ?_
  refine Ev.iconst (v := 4) rfl (by decide) ?_
  refine Ev.iconst (v := (-1)) rfl (by decide) ?_
  refine Ev.iastE (k := 4) rfl m_all (rfl : (4 : Int32) = nI 4) ⟨(by omega), by decide⟩ (fun τ3 f1 m_all => ?_)
  have m0 := frm.cell f1 m0 (by omega)
  have m_read := frm.cell f1 m_read (by omega)
  have m_has := frm.cell f1 m_has (by omega)
  have fr := fr.step f1 (by omega) (by omega)
  refine Ev.aload_n rfl rfl ?_
  refine Ev.iconst (v := 0) rfl (by decide) ?_
  refine Ev.putE rfl rfl m0 rfl rfl rfl (Nat.le_of_ble_eq_true rfl) (fun τ703 f1 q1 => ?_)
  have m0 : τ703.2 y = some (.inr (.inr (10, mo y (upd (upd (upd g 2 (nI n)) 3 (0 : Int32)) 8 (0 : Int32))))) := q1
  have m_all := frm.cell f1 m_all (by omega)
  have m_read := frm.cell f1 m_read (by omega)
  have m_has := frm.cell f1 m_has (by omega)
  have fr := fr.step f1 (by omega) (by omega)
  refine Ev.iload_n rfl rfl ?_
  refine Ev.iconst (v := 0) rfl (by decide) ?_
  refine Ev.iconst (v := 1) rfl (by decide) ?_
  refine Ev.cS3 rfl rfl rfl (by decide) ⟨(Nat.le_refl _), (Nat.le_refl _)⟩ (m_in_y (by decide)) ?_
  refine Ev.zeq (tgt := 59) rfl (by decide) (fun c47 => absurd c47 (by decide)) (fun c47 => ?_)
  have hM1 : isM _ y (upd (upd (upd g 2 (nI n)) 3 (0 : Int32)) 8 (0 : Int32)) (upd (upd (upd A 2 (0 : Int32)) 3 (0 : Int32)) 4 (-1 : Int32)) := ⟨m0, m_all⟩
  have hT1 : mT (upd (upd (upd A 2 (0 : Int32)) 3 (0 : Int32)) 4 (-1 : Int32)) 0 (T_tx T 0 (-1)) := tx_mT hT hw (fun q a b c => (pk_un c).trans ((pk_un b).trans (pk_un a))) ((pk_un (by decide)).trans ((pk_un (by decide)).trans pk_us)) ((pk_un (by decide)).trans pk_us) pk_us
  have hw1 : wT (T_tx T 0 (-1)) := tx_wT hw
  refine Ev.aload_n rfl rfl ?_
  refine Ev.iload_n rfl rfl ?_
  refine Ev.iload_n rfl rfl ?_
  refine Ev.cV2 rfl rfl m0 rfl rfl (by decide) ⟨(Nat.le_refl _), (Nat.le_refl _)⟩ (m_free_yes hM1 hT1 hw1 hp) ?_
  refine Ev.zne (tgt := 62) rfl (by decide) (fun c56 => ?_) (fun c56 => absurd c56 (by decide))
  refine Ev.aload_n rfl rfl ?_
  refine Ev.iload_n rfl rfl ?_
  refine Ev.xV1u rfl rfl m0 rfl rfl (by decide) ⟨(Nat.le_refl _), (Nat.le_refl _)⟩ (m_beg0_ok m0 m_all m_read) (fun τ64 f9 q9 => ?_)
  obtain ⟨rd0, m_read, hmS0, hSF0⟩ := q9
  have m0 := frm.cell f9 m0 (by omega)
  have m_all := frm.cell f9 m_all (by omega)
  have m_has := frm.cell f9 m_has (by omega)
  have fr := fr.step f9 (by omega) (by omega)
  refine Ev.aload_n rfl rfl ?_
  have hM : isM _ y (upd (upd (upd g 2 (nI n)) 3 (0 : Int32)) 8 (0 : Int32)) (upd (upd (upd A 2 (0 : Int32)) 3 (0 : Int32)) 4 (-1 : Int32)) := ⟨m0, m_all⟩
  have hAt : ∀ p, p < n → (upd (upd (upd A 2 (0 : Int32)) 3 (0 : Int32)) 4 (-1 : Int32)) (10 + p) = nI (U p) := fun p hp => (pk_un (by omega)).trans ((pk_un (by omega)).trans ((pk_un (by omega)).trans (hA p hp)))
  refine Ev.xV0u rfl rfl m0 rfl rfl (by decide) ⟨(Nat.le_refl _), (Nat.le_refl _)⟩ (m_adv_ok hM ht ((pk_un (by decide)).trans ((pk_un (by decide)).trans pk_us)) hAt (Nat.zero_le _) ((pk_un (by decide)).trans pk_us)) (fun τ68 f9 q9 => ?_)
  obtain ⟨g68, m0, hcr, hkk⟩ := q9
  have m_all := frm.cell f9 m_all (by omega)
  have m_read := frm.cell f9 m_read (by omega)
  have m_has := frm.cell f9 m_has (by omega)
  have fr := fr.step f9 (by omega) (by omega)
  have hst : MSt0 U n (upd (upd (upd A 2 (0 : Int32)) 3 (0 : Int32)) 4 (-1 : Int32)) (upd (upd (upd A 2 (0 : Int32)) 3 (0 : Int32)) 4 (-1 : Int32)) g68 (qS U n (clS S0) 0).1 := ⟨fun _ _ _ => rfl, (pk_un (by decide)).trans pk_us, pk_us, hcr, (hkk 2 (by omega)).trans ((pk_un (by decide)).trans ((pk_un (by decide)).trans pk_us)), (hkk 8 (by omega)).trans pk_us, trivial⟩
  have hst0 : MSt0 U n A0 (upd (upd (upd A 2 (0 : Int32)) 3 (0 : Int32)) 4 (-1 : Int32)) g68 (qS U n (clS S0) 0).1 := by
    rw [hA0e]
    exact hst
  have hl71 : ∀ (m71 : Nat) (i : Nat) (gq : (Nat → Int32)) (Aq : (Nat → Int32)) (rq : (Nat → Int32)), (i ≤ m ∧ MSt0 U n A0 Aq gq (qS U n (clS S0) i).1 ∧ SF i rq ∧ (Rw (qS U n (clS S0) i).1 = false → Rf (qS U n (clS S0) i).1 = 0 → mS rq 0 (qS U n (clS S0) i).2)) → (m + 1 - i) < m71 → ∀ τ71 : ex_S, frm σ τ71 y (y + 4) → τ71.2 y = some (.inr (.inr (10, mo y gq))) → τ71.2 (y + 1) = some (.inl (0, 4500, Aq)) → τ71.2 (y + 3) = some (.inl (0, 120, rq)) → τ71.2 (y + 2) = σ.2 (y + 2) → Ev Γ 0 0 m_M_text 0 0 71 [some (.ref y), some (.int (0 : Int32)), some (.int w), none, none] [] τ71 Q := by
    intro m71
    induction m71 with
    | zero => intro i gq Aq rq _ hm; exact absurd hm (Nat.not_lt_zero _)
    | succ m71 ih71 =>
      intro i gq Aq rq hJ71 hm71
      intro τ71 fr m0 m_all m_read m_has
      obtain ⟨hie, hst, hSF, hmS⟩ := hJ71
      have hm6 := hm.2.2.2
      have hoki : Rok U n (qS U n (clS S0) i).1 := hm.2.2.1 i hie
      refine Ev.aload_n rfl rfl ?_
      refine Ev.getf rfl rfl m0 rfl ?_
      rw [hst.2.2.2.2.2.1]
      refine Ev.zne (tgt := 103) rfl (by decide) (fun c75 => ?_) (fun c75 => ?_)
      · skip
        have him : i = m := by
          by_cases e : i = m
          · exact e
          · have h := hm.1 i (by omega)
            first
            | exact absurd (b01 c75) (by rw [h.1]; decide)
            | exact absurd (nI_injL (b := 0) (by have := tK_le (U := U) (n := n) (e := Re (qS U n (clS S0) i).1); omega) (by decide) c82) h.2
        subst him
        refine Ev.aload_n rfl rfl ?_
        refine Ev.getf rfl rfl m0 rfl ?_
        refine Ev.iconst (v := 3) rfl (by decide) ?_
        refine Ev.ialdN (k := 3) rfl m_all (rfl : (3 : Int32) = nI 3) ⟨(by omega), by decide⟩ ?_
        rw [hst.2.1]
        refine Ev.zeq (tgt := 114) rfl (by decide) (fun c109 => ?_) (fun c109 => ?_)
        · skip
          refine Ev.aload_n rfl rfl ?_
          refine Ev.iload_n rfl rfl ?_
          refine Ev.iload_n rfl rfl ?_
          have hwm : Rw (qS U n (clS S0) i).1 = false := by
            cases hx : Rw (qS U n (clS S0) i).1
            · rfl
            · rw [hx, if_pos rfl] at c109
              exact absurd c109 (by decide)
          have hfm : Rf (qS U n (clS S0) i).1 = 0 := by
            rw [hwm, if_neg (fun h => nomatch h)] at c109
            exact nI_injL (b := 0) (by have := hoki.2.1; omega) (by decide) c109
          have hF0 : txF (qS U n (clS S0) i).1 = 0 := by
            unfold txF
            rw [hwm, if_neg (fun h => nomatch h)]
            exact hfm
          have hmSm := hmS hwm hfm
          have hA3 : Aq 3 = 0 := by
            rw [hst.2.1, hwm, if_neg (fun h => nomatch h), hfm]
            rfl
          have hA4 : Aq 4 = -1 := by
            rw [hst.2.2.1, hwm, if_neg (fun h => nomatch h)]
            exact qS_z i hfm
          have hTq : mT Aq 0 (T_tx T 0 (-1)) := tx_mT hT hw (fun q a b c => (hst.1 q b c).trans (hA0q q a b c)) ((hst.1 2 (by decide) (by decide)).trans hA02) hA3 hA4
          have hw1 : wT (T_tx T 0 (-1)) := tx_wT hw
          refine Ev.xV2 rfl rfl m0 rfl rfl (by decide) ⟨(Nat.le_refl _), (Nat.le_refl _)⟩ (m_keeps_ok (T := T_tx T 0 (-1)) m0 m_all hTq.1 hw.2.1 hp) (fun τ117 f9 q9 => ?_)
          obtain ⟨A2, m_all, hA20, hA2q⟩ := q9
          have m0 := frm.cell f9 m0 (by omega)
          have m_read := frm.cell f9 m_read (by omega)
          have m_has := frm.cell f9 m_has (by omega)
          have fr := fr.step f9 (by omega) (by omega)
          have hplt := hp.lt hw.2.1
          have m_all : τ117.2 (y + 1) = some (.inl (0, 4500, cpA A2 rq (610 + 120 * k) 0)) := by
            rw [cpA_0]
            exact m_all
          refine Ev.istore_n rfl rfl rfl ?_
          refine Ev.iconst (v := 0) rfl (by decide) ?_
          refine Ev.istore rfl rfl rfl ?_
          have hl124 : ∀ (m124 : Nat) (j : Nat), (j ≤ 120) → (121 - j) < m124 → ∀ τ124 : ex_S, frm σ τ124 y (y + 4) → τ124.2 y = some (.inr (.inr (10, mo y gq))) → τ124.2 (y + 1) = some (.inl (0, 4500, (cpA A2 rq (610 + 120 * k) j))) → τ124.2 (y + 3) = some (.inl (0, 120, rq)) → τ124.2 (y + 2) = σ.2 (y + 2) → Ev Γ 0 0 m_M_text 0 0 124 [some (.ref y), some (.int (0 : Int32)), none, some (.int (nI k)), some (.int (nI j))] [] τ124 Q := by
            intro m124
            induction m124 with
            | zero => intro j _ hm; exact absurd hm (Nat.not_lt_zero _)
            | succ m124 ih124 =>
              intro j hJ124 hm124
              intro τ124 fr m0 m_all m_read m_has
              have hjl : j ≤ 120 := hJ124
              refine Ev.iload rfl rfl ?_
              refine Ev.iload_n rfl rfl ?_
              refine Ev.cS1 rfl rfl rfl (by decide) ⟨(Nat.le_refl _), (Nat.le_refl _)⟩ (m_size0_ok) ?_
              refine Ev.jge (tgt := 159) rfl (by decide) (fun c130 => ?_) (fun c130 => ?_)
              · skip
                refine Ev.iload_n rfl rfl ?_
                refine Ev.iret (ty := .int) rfl rfl rfl (Nat.le_refl _) (Nat.le_refl _) ?_
                have hj : j = 120 := Nat.le_antisymm hjl (Nat.le_of_not_lt (fun h => c130 (nI_lt (b := 120) h (by decide))))
                subst hj
                rw [← hQ]
                refine ⟨by rw [if_pos hF0], fr, _, _, _, m0, m_all, m_read, m_has, fun q a b => ?_, ?_⟩
                · exact (cpA_out (by omega)).trans ((hA2q q (by omega)).trans ((hst.1 q (by omega) (by omega)).trans (hA0q q (by omega) (by omega) (by omega))))
                · rw [if_pos hF0]
                  exact putS_mT hTq hw1 ((cpA_out (by omega)).trans hA20) (fun q hq => cpA_in hq) (fun q a b c => (cpA_out b).trans (hA2q q a)) hmSm (hwq i (Nat.le_refl _)) hplt.1 hplt.2
              · skip
                have hjlt : j < 120 := (nI_ltI (a := j) (b := 120) (by omega) (by decide)).mp c130
                have hplt2 := hplt.1
                refine Ev.aload_n rfl rfl ?_
                refine Ev.getf rfl rfl m0 rfl ?_
                refine Ev.iload_n rfl rfl ?_
                refine Ev.iload_n rfl rfl ?_
                refine Ev.cS2 rfl rfl rfl (by decide) ⟨(Nat.le_refl _), (Nat.le_refl _)⟩ (m_pl0_ok k) ?_
                refine Ev.iload rfl rfl ?_
                refine Ev.iadd rfl ?_
                refine Ev.aload_n rfl rfl ?_
                refine Ev.getf rfl rfl m0 rfl ?_
                refine Ev.iload rfl rfl ?_
                refine Ev.ialdN (k := j) rfl m_read rfl ⟨(by omega), by decide⟩ ?_
                refine Ev.iastE (k := 610 + 120 * k + j) rfl m_all (nq_add (a := 610 + 120 * k) (b := j) rfl rfl) ⟨(by omega), by decide⟩ (fun τ4 f1 m_all => ?_)
                have m0 := frm.cell f1 m0 (by omega)
                have m_read := frm.cell f1 m_read (by omega)
                have m_has := frm.cell f1 m_has (by omega)
                have fr := fr.step f1 (by omega) (by omega)
                have m_all : τ4.2 (y + 1) = some (.inl (0, 4500, cpA A2 rq (610 + 120 * k) (j + 1))) := by
                  rw [← cpA_up]
                  exact m_all
                refine Ev.iinc (d := 1) rfl rfl rfl (by decide) rfl ?_
                refine Ev.goto (tgt := 124) rfl (by decide) ?_
                exact (ih124 (j + 1) hjlt (by omega) τ4 fr m0 m_all m_read m_has).fg (gs rfl (gs rfl (gn (gs rfl (gs (congrArg Value.int (nq_add (a := j) (b := 1) rfl (rfl : (1 : Int32) = nI 1)).symm) gz)))))
          exact (hl124 _ 0 (Nat.zero_le _) (Nat.lt_succ_self _) τ117 fr m0 m_all m_read m_has).fg (gs rfl (gs rfl (gn (gs rfl (gs (congrArg Value.int (rfl : (0 : Int32) = nI 0).symm) gz)))))
        · skip
          refine Ev.iconst (v := (-1)) rfl (by decide) ?_
          refine Ev.iret (ty := .int) rfl rfl rfl (Nat.le_refl _) (Nat.le_refl _) ?_
          have hF : ¬ txF (qS U n (clS S0) i).1 = 0 := fun h => by
            obtain ⟨a, b⟩ := txF_0 h
            rw [a, if_neg (fun h => nomatch h), b] at c109
            exact c109 rfl
          rw [← hQ]
          refine ⟨by rw [if_neg hF], fr, _, _, _, m0, m_all, m_read, m_has, fun q a b => ?_, ?_⟩
          · exact (hst.1 q (by omega) (by omega)).trans (hA0q q (by omega) (by omega) (by omega))
          · rw [if_neg hF]
            refine tx_mT hT hw (fun q a b c => (hst.1 q b c).trans (hA0q q a b c)) ((hst.1 2 (by decide) (by decide)).trans hA02) ?_ hst.2.2.1
            rw [hst.2.1]
            unfold txF
            split <;> rfl
      · skip
        refine Ev.aload_n rfl rfl ?_
        refine Ev.getf rfl rfl m0 rfl ?_
        rw [hst.2.2.2.1.2.2.1]
        refine Ev.zeq (tgt := 103) rfl (by decide) (fun c82 => ?_) (fun c82 => ?_)
        · skip
          have him : i = m := by
            by_cases e : i = m
            · exact e
            · have h := hm.1 i (by omega)
              first
              | exact absurd (b01 c75) (by rw [h.1]; decide)
              | exact absurd (nI_injL (b := 0) (by have := tK_le (U := U) (n := n) (e := Re (qS U n (clS S0) i).1); omega) (by decide) c82) h.2
          subst him
          refine Ev.aload_n rfl rfl ?_
          refine Ev.getf rfl rfl m0 rfl ?_
          refine Ev.iconst (v := 3) rfl (by decide) ?_
          refine Ev.ialdN (k := 3) rfl m_all (rfl : (3 : Int32) = nI 3) ⟨(by omega), by decide⟩ ?_
          rw [hst.2.1]
          refine Ev.zeq (tgt := 114) rfl (by decide) (fun c109 => ?_) (fun c109 => ?_)
          · skip
            refine Ev.aload_n rfl rfl ?_
            refine Ev.iload_n rfl rfl ?_
            refine Ev.iload_n rfl rfl ?_
            have hwm : Rw (qS U n (clS S0) i).1 = false := by
              cases hx : Rw (qS U n (clS S0) i).1
              · rfl
              · rw [hx, if_pos rfl] at c109
                exact absurd c109 (by decide)
            have hfm : Rf (qS U n (clS S0) i).1 = 0 := by
              rw [hwm, if_neg (fun h => nomatch h)] at c109
              exact nI_injL (b := 0) (by have := hoki.2.1; omega) (by decide) c109
            have hF0 : txF (qS U n (clS S0) i).1 = 0 := by
              unfold txF
              rw [hwm, if_neg (fun h => nomatch h)]
              exact hfm
            have hmSm := hmS hwm hfm
            have hA3 : Aq 3 = 0 := by
              rw [hst.2.1, hwm, if_neg (fun h => nomatch h), hfm]
              rfl
            have hA4 : Aq 4 = -1 := by
              rw [hst.2.2.1, hwm, if_neg (fun h => nomatch h)]
              exact qS_z i hfm
            have hTq : mT Aq 0 (T_tx T 0 (-1)) := tx_mT hT hw (fun q a b c => (hst.1 q b c).trans (hA0q q a b c)) ((hst.1 2 (by decide) (by decide)).trans hA02) hA3 hA4
            have hw1 : wT (T_tx T 0 (-1)) := tx_wT hw
            refine Ev.xV2 rfl rfl m0 rfl rfl (by decide) ⟨(Nat.le_refl _), (Nat.le_refl _)⟩ (m_keeps_ok (T := T_tx T 0 (-1)) m0 m_all hTq.1 hw.2.1 hp) (fun τ117 f9 q9 => ?_)
            obtain ⟨A2, m_all, hA20, hA2q⟩ := q9
            have m0 := frm.cell f9 m0 (by omega)
            have m_read := frm.cell f9 m_read (by omega)
            have m_has := frm.cell f9 m_has (by omega)
            have fr := fr.step f9 (by omega) (by omega)
            have hplt := hp.lt hw.2.1
            have m_all : τ117.2 (y + 1) = some (.inl (0, 4500, cpA A2 rq (610 + 120 * k) 0)) := by
              rw [cpA_0]
              exact m_all
            refine Ev.istore_n rfl rfl rfl ?_
            refine Ev.iconst (v := 0) rfl (by decide) ?_
            refine Ev.istore rfl rfl rfl ?_
            have hl124 : ∀ (m124 : Nat) (j : Nat), (j ≤ 120) → (121 - j) < m124 → ∀ τ124 : ex_S, frm σ τ124 y (y + 4) → τ124.2 y = some (.inr (.inr (10, mo y gq))) → τ124.2 (y + 1) = some (.inl (0, 4500, (cpA A2 rq (610 + 120 * k) j))) → τ124.2 (y + 3) = some (.inl (0, 120, rq)) → τ124.2 (y + 2) = σ.2 (y + 2) → Ev Γ 0 0 m_M_text 0 0 124 [some (.ref y), some (.int (0 : Int32)), none, some (.int (nI k)), some (.int (nI j))] [] τ124 Q := by
              intro m124
              induction m124 with
              | zero => intro j _ hm; exact absurd hm (Nat.not_lt_zero _)
              | succ m124 ih124 =>
                intro j hJ124 hm124
                intro τ124 fr m0 m_all m_read m_has
                have hjl : j ≤ 120 := hJ124
                refine Ev.iload rfl rfl ?_
                refine Ev.iload_n rfl rfl ?_
                refine Ev.cS1 rfl rfl rfl (by decide) ⟨(Nat.le_refl _), (Nat.le_refl _)⟩ (m_size0_ok) ?_
                refine Ev.jge (tgt := 159) rfl (by decide) (fun c130 => ?_) (fun c130 => ?_)
                · skip
                  refine Ev.iload_n rfl rfl ?_
                  refine Ev.iret (ty := .int) rfl rfl rfl (Nat.le_refl _) (Nat.le_refl _) ?_
                  have hj : j = 120 := Nat.le_antisymm hjl (Nat.le_of_not_lt (fun h => c130 (nI_lt (b := 120) h (by decide))))
                  subst hj
                  rw [← hQ]
                  refine ⟨by rw [if_pos hF0], fr, _, _, _, m0, m_all, m_read, m_has, fun q a b => ?_, ?_⟩
                  · exact (cpA_out (by omega)).trans ((hA2q q (by omega)).trans ((hst.1 q (by omega) (by omega)).trans (hA0q q (by omega) (by omega) (by omega))))
                  · rw [if_pos hF0]
                    exact putS_mT hTq hw1 ((cpA_out (by omega)).trans hA20) (fun q hq => cpA_in hq) (fun q a b c => (cpA_out b).trans (hA2q q a)) hmSm (hwq i (Nat.le_refl _)) hplt.1 hplt.2
                · skip
                  have hjlt : j < 120 := (nI_ltI (a := j) (b := 120) (by omega) (by decide)).mp c130
                  have hplt2 := hplt.1
                  refine Ev.aload_n rfl rfl ?_
                  refine Ev.getf rfl rfl m0 rfl ?_
                  refine Ev.iload_n rfl rfl ?_
                  refine Ev.iload_n rfl rfl ?_
                  refine Ev.cS2 rfl rfl rfl (by decide) ⟨(Nat.le_refl _), (Nat.le_refl _)⟩ (m_pl0_ok k) ?_
                  refine Ev.iload rfl rfl ?_
                  refine Ev.iadd rfl ?_
                  refine Ev.aload_n rfl rfl ?_
                  refine Ev.getf rfl rfl m0 rfl ?_
                  refine Ev.iload rfl rfl ?_
                  refine Ev.ialdN (k := j) rfl m_read rfl ⟨(by omega), by decide⟩ ?_
                  refine Ev.iastE (k := 610 + 120 * k + j) rfl m_all (nq_add (a := 610 + 120 * k) (b := j) rfl rfl) ⟨(by omega), by decide⟩ (fun τ5 f1 m_all => ?_)
                  have m0 := frm.cell f1 m0 (by omega)
                  have m_read := frm.cell f1 m_read (by omega)
                  have m_has := frm.cell f1 m_has (by omega)
                  have fr := fr.step f1 (by omega) (by omega)
                  have m_all : τ5.2 (y + 1) = some (.inl (0, 4500, cpA A2 rq (610 + 120 * k) (j + 1))) := by
                    rw [← cpA_up]
                    exact m_all
                  refine Ev.iinc (d := 1) rfl rfl rfl (by decide) rfl ?_
                  refine Ev.goto (tgt := 124) rfl (by decide) ?_
                  exact (ih124 (j + 1) hjlt (by omega) τ5 fr m0 m_all m_read m_has).fg (gs rfl (gs rfl (gn (gs rfl (gs (congrArg Value.int (nq_add (a := j) (b := 1) rfl (rfl : (1 : Int32) = nI 1)).symm) gz)))))
            exact (hl124 _ 0 (Nat.zero_le _) (Nat.lt_succ_self _) τ117 fr m0 m_all m_read m_has).fg (gs rfl (gs rfl (gn (gs rfl (gs (congrArg Value.int (rfl : (0 : Int32) = nI 0).symm) gz)))))
          · skip
            refine Ev.iconst (v := (-1)) rfl (by decide) ?_
            refine Ev.iret (ty := .int) rfl rfl rfl (Nat.le_refl _) (Nat.le_refl _) ?_
            have hF : ¬ txF (qS U n (clS S0) i).1 = 0 := fun h => by
              obtain ⟨a, b⟩ := txF_0 h
              rw [a, if_neg (fun h => nomatch h), b] at c109
              exact c109 rfl
            rw [← hQ]
            refine ⟨by rw [if_neg hF], fr, _, _, _, m0, m_all, m_read, m_has, fun q a b => ?_, ?_⟩
            · exact (hst.1 q (by omega) (by omega)).trans (hA0q q (by omega) (by omega) (by omega))
            · rw [if_neg hF]
              refine tx_mT hT hw (fun q a b c => (hst.1 q b c).trans (hA0q q a b c)) ((hst.1 2 (by decide) (by decide)).trans hA02) ?_ hst.2.2.1
              rw [hst.2.1]
              unfold txF
              split <;> rfl
        · skip
          have hwi : Rw (qS U n (clS S0) i).1 = false := b00 c75
          have hk0 : ¬ tK U n (Re (qS U n (clS S0) i).1) = 0 := fun h => c82 (congrArg nI h)
          have hlt : i < m := by
            by_cases e : i = m
            · rcases hm.2.1 with h | h
              · rw [e] at hwi
                rw [hwi] at h
                cases h
              · rw [e] at hk0
                exact absurd h hk0
            · omega
          have hwSi := hwq i hie
          by_cases hC : tK U n (Re (qS U n (clS S0) i).1) = 3 ∧ 1 ≤ tW U n (Re (qS U n (clS S0) i).1) ∧ tW U n (Re (qS U n (clS S0) i).1) ≤ 15
          · skip
            have hqn : (qS U n (clS S0) (i + 1)) = (rel U n (lnX U n (tW U n (Re (qS U n (clS S0) i).1) - 1) (qS U n (clS S0) i).2 (qS U n (clS S0) i).1), if Rw (rel U n (lnX U n (tW U n (Re (qS U n (clS S0) i).1) - 1) (qS U n (clS S0) i).2 (qS U n (clS S0) i).1)) = false ∧ Rf (rel U n (lnX U n (tW U n (Re (qS U n (clS S0) i).1) - 1) (qS U n (clS S0) i).2 (qS U n (clS S0) i).1)) = 0 then LnF (tW U n (Re (qS U n (clS S0) i).1) - 1) (lnN U n (tW U n (Re (qS U n (clS S0) i).1) - 1) (qS U n (clS S0) i).2 (qS U n (clS S0) i).1) (qS U n (clS S0) i).2 else (qS U n (clS S0) i).2) := if_pos hC
            refine Ev.iload_n rfl rfl ?_
            refine Ev.zne (tgt := 96) rfl (by decide) (fun c86 => absurd (by decide) c86) (fun c86 => ?_)
            refine Ev.aload_n rfl rfl ?_
            refine Ev.xV0u rfl rfl m0 rfl rfl (by decide) ⟨(Nat.le_refl _), (Nat.le_refl _)⟩ (m_schL_any m0 m_all m_read ht hA0 hst hoki hwi hC.1 hC.2.1 hC.2.2 hwSi (b := i) (by omega) hSF (fun f => hmS hwi f)) (fun τ90 f9 q9 => ?_)
            obtain ⟨g90, A90, rd90, ab90, m0, m_all, m_read, q_has, hst, hSF1, hmS1⟩ := q9
            have m_has := q_has.trans m_has
            have fr := fr.step f9 (by omega) (by omega)
            have hxok : Rok U n (lnX U n (tW U n (Re (qS U n (clS S0) i).1) - 1) (qS U n (clS S0) i).2 (qS U n (clS S0) i).1) := chn_ok ht (lnS_f ht hoki hwi hk0).1 _
            have hst1 : MSt0 U n A0 A90 g90 (qS U n (clS S0) (i + 1)).1 := by rw [hqn]; exact hst.m0
            have hmSn : Rw (qS U n (clS S0) (i + 1)).1 = false → Rf (qS U n (clS S0) (i + 1)).1 = 0 → mS rd90 0 (qS U n (clS S0) (i + 1)).2 := by
              rw [hqn]
              intro hw9 hf9
              have hr := rel_re ht hxok hw9
              have hf8 : Rf (lnX U n (tW U n (Re (qS U n (clS S0) i).1) - 1) (qS U n (clS S0) i).2 (qS U n (clS S0) i).1) = 0 := hr.2.2.symm.trans hf9
              show mS rd90 0 (if Rw (rel U n (lnX U n (tW U n (Re (qS U n (clS S0) i).1) - 1) (qS U n (clS S0) i).2 (qS U n (clS S0) i).1)) = false ∧ Rf (rel U n (lnX U n (tW U n (Re (qS U n (clS S0) i).1) - 1) (qS U n (clS S0) i).2 (qS U n (clS S0) i).1)) = 0 then _ else _)
              rw [if_pos ⟨hw9, hf9⟩]
              exact hmS1 hr.2.1 hf8
            refine Ev.goto (tgt := 71) rfl (by decide) ?_
            exact (ih71 (i + 1) g90 A90 rd90 (⟨by omega, hst1, hSF1, hmSn⟩) (by omega) τ90 fr m0 m_all m_read m_has).fg (gs rfl (gs rfl (gs rfl (gn (gn gz)))))
          · skip
            have hqn : (qS U n (clS S0) (i + 1)) = ((true, Re (qS U n (clS S0) i).1, Rf (qS U n (clS S0) i).1, Rp (qS U n (clS S0) i).1), (qS U n (clS S0) i).2) := if_neg hC
            refine Ev.iload_n rfl rfl ?_
            refine Ev.zne (tgt := 96) rfl (by decide) (fun c86 => absurd (by decide) c86) (fun c86 => ?_)
            refine Ev.aload_n rfl rfl ?_
            refine Ev.xV0u rfl rfl m0 rfl rfl (by decide) ⟨(Nat.le_refl _), (Nat.le_refl _)⟩ (m_no_sch m0 m_all m_read ht hA0 hst hoki hwi hC) (fun τ90 f9 q9 => ?_)
            obtain ⟨g90, A90, rd90, m0, m_all, m_read, q_has, hst, hrr⟩ := q9
            have m_has := q_has.trans m_has
            have fr := fr.step f9 (by omega) (by omega)
            have hst1 : MSt0 U n A0 A90 g90 (qS U n (clS S0) (i + 1)).1 := by rw [hqn]; exact hst
            have hmSn : Rw (qS U n (clS S0) (i + 1)).1 = false → Rf (qS U n (clS S0) (i + 1)).1 = 0 → mS rd90 0 (qS U n (clS S0) (i + 1)).2 := by
              rw [hqn]
              intro hw9
              exact (nomatch hw9)
            have hSF1 : SF (i + 1) rd90 := by rw [hrr]; exact hSF.mono (Nat.le_succ i)
            refine Ev.goto (tgt := 71) rfl (by decide) ?_
            exact (ih71 (i + 1) g90 A90 rd90 (⟨by omega, hst1, hSF1, hmSn⟩) (by omega) τ90 fr m0 m_all m_read m_has).fg (gs rfl (gs rfl (gs rfl (gn (gn gz)))))
  exact (hl71 _ 0 g68 (upd (upd (upd A 2 (0 : Int32)) 3 (0 : Int32)) 4 (-1 : Int32)) rd0 (⟨Nat.zero_le _, hst0, hSF0, fun _ _ => hmS0 S0⟩) (Nat.lt_succ_self _) τ68 fr m0 m_all m_read m_has).fg (gs rfl (gs rfl (gs rfl (gn (gn gz)))))
theorem m_text1_ok (hM : isM σ y g A) {rd : Nat → Int32} (m_read : σ.2 (y + 3) = some (.inl (0, 120, rd))) (hT : mT A 0 T) (hw : wT T) (ht : txt U n) (hn : n = tN T) (hA : ∀ p, p < n → A (10 + p) = nI (U p)) {w : Int32} {k : Nat} (hp : plc w (tPn T) k) (f0 : Nat → Les) {m : Nat} (hm : tEnd U n (fun i => (qP U n (0, f0) i).1) m) : RetX Γ m_M_text [.ref y, .int 1, .int w] σ y (y + 4) (some (.int (if txF (qP U n (0, f0) m).1 = 0 then nI k else -1))) (fun τ => ∃ (g1 A1 rd1 : Nat → Int32), τ.2 y = some (.inr (.inr (10, mo y g1))) ∧ τ.2 (y + 1) = some (.inl (0, 4500, A1)) ∧ τ.2 (y + 3) = some (.inl (0, 120, rd1)) ∧ τ.2 (y + 2) = σ.2 (y + 2) ∧ (∀ q, 1090 ≤ q → q < 4360 → A1 q = A q) ∧ mT A1 0 (if txF (qP U n (0, f0) m).1 = 0 then K_putP (T_tx T 0 (-1)) k (qP U n (0, f0) m).2 else T_tx T (nI (txF (qP U n (0, f0) m).1)) (txQ U n (qP U n (0, f0) m).1))) := by
  obtain ⟨m0, m_all⟩ := id hM
  have hn6 := ht.1
  have hA2 : A 2 = nI n := by rw [hn]; exact hT.2.2.1
  have hm : tEnd U n (fun i => (qP U n (0, f0) i).1) m := hm
  have hwq : ∀ i, i ≤ m → wP (qP U n (0, f0) i).2 := by
    intro i
    induction i with
    | zero => exact fun _ => ⟨Nat.zero_le _, fun k hk => absurd hk (Nat.not_lt_zero _)⟩
    | succ i ih => exact fun hi => stP_wP ht (hm.2.2.1 i (by omega)) (hm.1 i (by omega)).1 (hm.1 i (by omega)).2 (ih (by omega))
  obtain ⟨A0, hA0e⟩ : ∃ q, q = (upd (upd (upd A 2 0) 3 0) 4 (-1)) := ⟨_, rfl⟩
  have hA0 : ∀ p, p < n → A0 (10 + p) = nI (U p) := fun p hp => by rw [hA0e]; exact (pk_un (by omega)).trans ((pk_un (by omega)).trans ((pk_un (by omega)).trans (hA p hp)))
  have hA0q : ∀ q, q ≠ 2 → q ≠ 3 → q ≠ 4 → A0 q = A q := fun q a b c => by
    rw [hA0e]
    exact (pk_un c).trans ((pk_un b).trans (pk_un a))
  have hA02 : A0 2 = 0 := by
    rw [hA0e]
    exact (pk_un (by decide)).trans ((pk_un (by decide)).trans pk_us)
  unfold RetX
  generalize hQ : ((fun (r0 : Option Value) (τ : ex_S) => r0 = some (.int (if txF (qP U n (0, f0) m).1 = 0 then nI k else -1)) ∧ frm σ τ y (y + 4) ∧ (fun τ : ex_S => ∃ (g1 A1 rd1 : Nat → Int32), τ.2 y = some (.inr (.inr (10, mo y g1))) ∧ τ.2 (y + 1) = some (.inl (0, 4500, A1)) ∧ τ.2 (y + 3) = some (.inl (0, 120, rd1)) ∧ τ.2 (y + 2) = σ.2 (y + 2) ∧ (∀ q, 1090 ≤ q → q < 4360 → A1 q = A q) ∧ mT A1 0 (if txF (qP U n (0, f0) m).1 = 0 then K_putP (T_tx T 0 (-1)) k (qP U n (0, f0) m).2 else T_tx T (nI (txF (qP U n (0, f0) m).1)) (txQ U n (qP U n (0, f0) m).1))) τ)) = Q
  refine Ret.start pm_191 rfl ?_
  have fr : frm σ σ y (y + 4) := frm.rf
  have m_has : σ.2 (y + 2) = σ.2 (y + 2) := rfl
  refine Ev.aload_n rfl rfl ?_
  refine Ev.aload_n rfl rfl ?_
  refine Ev.getf rfl rfl m0 rfl ?_
  refine Ev.iconst (v := 2) rfl (by decide) ?_
  refine Ev.ialdN (k := 2) rfl m_all (rfl : (2 : Int32) = nI 2) ⟨(by omega), by decide⟩ ?_
  rw [hA2]
  refine Ev.putE rfl rfl m0 rfl rfl rfl (Nat.le_of_ble_eq_true rfl) (fun τ701 f1 q1 => ?_)
  have m0 : τ701.2 y = some (.inr (.inr (10, mo y (upd g 2 (nI n))))) := q1
  have m_all := frm.cell f1 m_all (by omega)
  have m_read := frm.cell f1 m_read (by omega)
  have m_has := frm.cell f1 m_has (by omega)
  have fr := fr.step f1 (by omega) (by omega)
  refine Ev.aload_n rfl rfl ?_
  refine Ev.getf rfl rfl m0 rfl ?_
  refine Ev.iconst (v := 2) rfl (by decide) ?_
  refine Ev.iconst (v := 0) rfl (by decide) ?_
  refine Ev.iastE (k := 2) rfl m_all (rfl : (2 : Int32) = nI 2) ⟨(by omega), by decide⟩ (fun τ1 f1 m_all => ?_)
  have m0 := frm.cell f1 m0 (by omega)
  have m_read := frm.cell f1 m_read (by omega)
  have m_has := frm.cell f1 m_has (by omega)
  have fr := fr.step f1 (by omega) (by omega)
  refine Ev.aload_n rfl rfl ?_
  refine Ev.iconst (v := 0) rfl (by decide) ?_
  refine Ev.putE rfl rfl m0 rfl rfl rfl (Nat.le_of_ble_eq_true rfl) (fun τ702 f1 q1 => ?_)
  have m0 : τ702.2 y = some (.inr (.inr (10, mo y (upd (upd g 2 (nI n)) 3 (0 : Int32))))) := q1
  have m_all := frm.cell f1 m_all (by omega)
  have m_read := frm.cell f1 m_read (by omega)
  have m_has := frm.cell f1 m_has (by omega)
  have fr := fr.step f1 (by omega) (by omega)
  refine Ev.aload_n rfl rfl ?_
  refine Ev.getf rfl rfl m0 rfl ?_
  refine Ev.iconst (v := 3) rfl (by decide) ?_
  refine Ev.iconst (v := 0) rfl (by decide) ?_
  refine Ev.iastE (k := 3) rfl m_all (rfl : (3 : Int32) = nI 3) ⟨(by omega), by decide⟩ (fun τ2 f1 m_all => ?_)
  have m0 := frm.cell f1 m0 (by omega)
  have m_read := frm.cell f1 m_read (by omega)
  have m_has := frm.cell f1 m_has (by omega)
  have fr := fr.step f1 (by omega) (by omega)
  refine Ev.aload_n rfl rfl ?_
  refine Ev.getf rfl rfl m0 rfl ?_
  refine Ev.iconst (v := 4) rfl (by decide) ?_
  refine Ev.iconst (v := (-1)) rfl (by decide) ?_
  refine Ev.iastE (k := 4) rfl m_all (rfl : (4 : Int32) = nI 4) ⟨(by omega), by decide⟩ (fun τ3 f1 m_all => ?_)
  have m0 := frm.cell f1 m0 (by omega)
  have m_read := frm.cell f1 m_read (by omega)
  have m_has := frm.cell f1 m_has (by omega)
  have fr := fr.step f1 (by omega) (by omega)
  refine Ev.aload_n rfl rfl ?_
  refine Ev.iconst (v := 0) rfl (by decide) ?_
  refine Ev.putE rfl rfl m0 rfl rfl rfl (Nat.le_of_ble_eq_true rfl) (fun τ703 f1 q1 => ?_)
  have m0 : τ703.2 y = some (.inr (.inr (10, mo y (upd (upd (upd g 2 (nI n)) 3 (0 : Int32)) 8 (0 : Int32))))) := q1
  have m_all := frm.cell f1 m_all (by omega)
  have m_read := frm.cell f1 m_read (by omega)
  have m_has := frm.cell f1 m_has (by omega)
  have fr := fr.step f1 (by omega) (by omega)
  refine Ev.iload_n rfl rfl ?_
  refine Ev.iconst (v := 0) rfl (by decide) ?_
  refine Ev.iconst (v := 1) rfl (by decide) ?_
  refine Ev.cS3 rfl rfl rfl (by decide) ⟨(Nat.le_refl _), (Nat.le_refl _)⟩ (m_in_y (by decide)) ?_
  refine Ev.zeq (tgt := 59) rfl (by decide) (fun c47 => absurd c47 (by decide)) (fun c47 => ?_)
  have hM1 : isM _ y (upd (upd (upd g 2 (nI n)) 3 (0 : Int32)) 8 (0 : Int32)) (upd (upd (upd A 2 (0 : Int32)) 3 (0 : Int32)) 4 (-1 : Int32)) := ⟨m0, m_all⟩
  have hT1 : mT (upd (upd (upd A 2 (0 : Int32)) 3 (0 : Int32)) 4 (-1 : Int32)) 0 (T_tx T 0 (-1)) := tx_mT hT hw (fun q a b c => (pk_un c).trans ((pk_un b).trans (pk_un a))) ((pk_un (by decide)).trans ((pk_un (by decide)).trans pk_us)) ((pk_un (by decide)).trans pk_us) pk_us
  have hw1 : wT (T_tx T 0 (-1)) := tx_wT hw
  refine Ev.aload_n rfl rfl ?_
  refine Ev.iload_n rfl rfl ?_
  refine Ev.iload_n rfl rfl ?_
  refine Ev.cV2 rfl rfl m0 rfl rfl (by decide) ⟨(Nat.le_refl _), (Nat.le_refl _)⟩ (m_freeP_yes hM1 hT1 hw1 hp) ?_
  refine Ev.zne (tgt := 62) rfl (by decide) (fun c56 => ?_) (fun c56 => absurd c56 (by decide))
  refine Ev.aload_n rfl rfl ?_
  refine Ev.iload_n rfl rfl ?_
  refine Ev.xV1u rfl rfl m0 rfl rfl (by decide) ⟨(Nat.le_refl _), (Nat.le_refl _)⟩ (m_beg1_ok m0 m_all m_read) (fun τ64 f9 q9 => ?_)
  obtain ⟨rd0, m_read, hrc0⟩ := q9
  have m0 := frm.cell f9 m0 (by omega)
  have m_all := frm.cell f9 m_all (by omega)
  have m_has := frm.cell f9 m_has (by omega)
  have fr := fr.step f9 (by omega) (by omega)
  refine Ev.aload_n rfl rfl ?_
  have hM : isM _ y (upd (upd (upd g 2 (nI n)) 3 (0 : Int32)) 8 (0 : Int32)) (upd (upd (upd A 2 (0 : Int32)) 3 (0 : Int32)) 4 (-1 : Int32)) := ⟨m0, m_all⟩
  have hAt : ∀ p, p < n → (upd (upd (upd A 2 (0 : Int32)) 3 (0 : Int32)) 4 (-1 : Int32)) (10 + p) = nI (U p) := fun p hp => (pk_un (by omega)).trans ((pk_un (by omega)).trans ((pk_un (by omega)).trans (hA p hp)))
  refine Ev.xV0u rfl rfl m0 rfl rfl (by decide) ⟨(Nat.le_refl _), (Nat.le_refl _)⟩ (m_adv_ok hM ht ((pk_un (by decide)).trans ((pk_un (by decide)).trans pk_us)) hAt (Nat.zero_le _) ((pk_un (by decide)).trans pk_us)) (fun τ68 f9 q9 => ?_)
  obtain ⟨g68, m0, hcr, hkk⟩ := q9
  have m_all := frm.cell f9 m_all (by omega)
  have m_read := frm.cell f9 m_read (by omega)
  have m_has := frm.cell f9 m_has (by omega)
  have fr := fr.step f9 (by omega) (by omega)
  have hst : MSt0 U n (upd (upd (upd A 2 (0 : Int32)) 3 (0 : Int32)) 4 (-1 : Int32)) (upd (upd (upd A 2 (0 : Int32)) 3 (0 : Int32)) 4 (-1 : Int32)) g68 (qP U n (0, f0) 0).1 := ⟨fun _ _ _ => rfl, (pk_un (by decide)).trans pk_us, pk_us, hcr, (hkk 2 (by omega)).trans ((pk_un (by decide)).trans ((pk_un (by decide)).trans pk_us)), (hkk 8 (by omega)).trans pk_us, trivial⟩
  have hst0 : MSt0 U n A0 (upd (upd (upd A 2 (0 : Int32)) 3 (0 : Int32)) 4 (-1 : Int32)) g68 (qP U n (0, f0) 0).1 := by
    rw [hA0e]
    exact hst
  have hl71 : ∀ (m71 : Nat) (i : Nat) (gq : (Nat → Int32)) (Aq : (Nat → Int32)) (rq : (Nat → Int32)), (i ≤ m ∧ MSt0 U n A0 Aq gq (qP U n (0, f0) i).1 ∧ (∃ cq, rq 0 = nI cq ∧ cq ≤ i) ∧ (Rw (qP U n (0, f0) i).1 = false → Rf (qP U n (0, f0) i).1 = 0 → mP rq 0 (qP U n (0, f0) i).2)) → (m + 1 - i) < m71 → ∀ τ71 : ex_S, frm σ τ71 y (y + 4) → τ71.2 y = some (.inr (.inr (10, mo y gq))) → τ71.2 (y + 1) = some (.inl (0, 4500, Aq)) → τ71.2 (y + 3) = some (.inl (0, 120, rq)) → τ71.2 (y + 2) = σ.2 (y + 2) → Ev Γ 0 0 m_M_text 0 0 71 [some (.ref y), some (.int (1 : Int32)), some (.int w), none, none] [] τ71 Q := by
    intro m71
    induction m71 with
    | zero => intro i gq Aq rq _ hm; exact absurd hm (Nat.not_lt_zero _)
    | succ m71 ih71 =>
      intro i gq Aq rq hJ71 hm71
      intro τ71 fr m0 m_all m_read m_has
      obtain ⟨hie, hst, ⟨cq, hrc, hcq⟩, hmS⟩ := hJ71
      have hm6 := hm.2.2.2
      have hoki : Rok U n (qP U n (0, f0) i).1 := hm.2.2.1 i hie
      refine Ev.aload_n rfl rfl ?_
      refine Ev.getf rfl rfl m0 rfl ?_
      rw [hst.2.2.2.2.2.1]
      refine Ev.zne (tgt := 103) rfl (by decide) (fun c75 => ?_) (fun c75 => ?_)
      · skip
        have him : i = m := by
          by_cases e : i = m
          · exact e
          · have h := hm.1 i (by omega)
            first
            | exact absurd (b01 c75) (by rw [h.1]; decide)
            | exact absurd (nI_injL (b := 0) (by have := tK_le (U := U) (n := n) (e := Re (qP U n (0, f0) i).1); omega) (by decide) c82) h.2
        subst him
        refine Ev.aload_n rfl rfl ?_
        refine Ev.getf rfl rfl m0 rfl ?_
        refine Ev.iconst (v := 3) rfl (by decide) ?_
        refine Ev.ialdN (k := 3) rfl m_all (rfl : (3 : Int32) = nI 3) ⟨(by omega), by decide⟩ ?_
        rw [hst.2.1]
        refine Ev.zeq (tgt := 114) rfl (by decide) (fun c109 => ?_) (fun c109 => ?_)
        · skip
          refine Ev.aload_n rfl rfl ?_
          refine Ev.iload_n rfl rfl ?_
          refine Ev.iload_n rfl rfl ?_
          have hwm : Rw (qP U n (0, f0) i).1 = false := by
            cases hx : Rw (qP U n (0, f0) i).1
            · rfl
            · rw [hx, if_pos rfl] at c109
              exact absurd c109 (by decide)
          have hfm : Rf (qP U n (0, f0) i).1 = 0 := by
            rw [hwm, if_neg (fun h => nomatch h)] at c109
            exact nI_injL (b := 0) (by have := hoki.2.1; omega) (by decide) c109
          have hF0 : txF (qP U n (0, f0) i).1 = 0 := by
            unfold txF
            rw [hwm, if_neg (fun h => nomatch h)]
            exact hfm
          have hmSm := hmS hwm hfm
          have hA3 : Aq 3 = 0 := by
            rw [hst.2.1, hwm, if_neg (fun h => nomatch h), hfm]
            rfl
          have hA4 : Aq 4 = -1 := by
            rw [hst.2.2.1, hwm, if_neg (fun h => nomatch h)]
            exact qP_z i hfm
          have hTq : mT Aq 0 (T_tx T 0 (-1)) := tx_mT hT hw (fun q a b c => (hst.1 q b c).trans (hA0q q a b c)) ((hst.1 2 (by decide) (by decide)).trans hA02) hA3 hA4
          have hw1 : wT (T_tx T 0 (-1)) := tx_wT hw
          refine Ev.xV2 rfl rfl m0 rfl rfl (by decide) ⟨(Nat.le_refl _), (Nat.le_refl _)⟩ (m_keepsP_ok (T := T_tx T 0 (-1)) m0 m_all hTq.2.1 hw.2.2.1 hp) (fun τ117 f9 q9 => ?_)
          obtain ⟨A2, m_all, hA20, hA2q⟩ := q9
          have m0 := frm.cell f9 m0 (by omega)
          have m_read := frm.cell f9 m_read (by omega)
          have m_has := frm.cell f9 m_has (by omega)
          have fr := fr.step f9 (by omega) (by omega)
          have hplt := hp.lt hw.2.2.1
          have m_all : τ117.2 (y + 1) = some (.inl (0, 4500, cpA A2 rq (970 + 40 * k) 0)) := by
            rw [cpA_0]
            exact m_all
          refine Ev.istore_n rfl rfl rfl ?_
          refine Ev.iconst (v := 0) rfl (by decide) ?_
          refine Ev.istore rfl rfl rfl ?_
          have hl124 : ∀ (m124 : Nat) (j : Nat), (j ≤ 40) → (41 - j) < m124 → ∀ τ124 : ex_S, frm σ τ124 y (y + 4) → τ124.2 y = some (.inr (.inr (10, mo y gq))) → τ124.2 (y + 1) = some (.inl (0, 4500, (cpA A2 rq (970 + 40 * k) j))) → τ124.2 (y + 3) = some (.inl (0, 120, rq)) → τ124.2 (y + 2) = σ.2 (y + 2) → Ev Γ 0 0 m_M_text 0 0 124 [some (.ref y), some (.int (1 : Int32)), none, some (.int (nI k)), some (.int (nI j))] [] τ124 Q := by
            intro m124
            induction m124 with
            | zero => intro j _ hm; exact absurd hm (Nat.not_lt_zero _)
            | succ m124 ih124 =>
              intro j hJ124 hm124
              intro τ124 fr m0 m_all m_read m_has
              have hjl : j ≤ 40 := hJ124
              refine Ev.iload rfl rfl ?_
              refine Ev.iload_n rfl rfl ?_
              refine Ev.cS1 rfl rfl rfl (by decide) ⟨(Nat.le_refl _), (Nat.le_refl _)⟩ (m_size1_ok) ?_
              refine Ev.jge (tgt := 159) rfl (by decide) (fun c130 => ?_) (fun c130 => ?_)
              · skip
                refine Ev.iload_n rfl rfl ?_
                refine Ev.iret (ty := .int) rfl rfl rfl (Nat.le_refl _) (Nat.le_refl _) ?_
                have hj : j = 40 := Nat.le_antisymm hjl (Nat.le_of_not_lt (fun h => c130 (nI_lt (b := 40) h (by decide))))
                subst hj
                rw [← hQ]
                refine ⟨by rw [if_pos hF0], fr, _, _, _, m0, m_all, m_read, m_has, fun q a b => ?_, ?_⟩
                · exact (cpA_out (by omega)).trans ((hA2q q (by omega)).trans ((hst.1 q (by omega) (by omega)).trans (hA0q q (by omega) (by omega) (by omega))))
                · rw [if_pos hF0]
                  exact putP_mT hTq hw1 ((cpA_out (by omega)).trans hA20) (fun q hq => cpA_in hq) (fun q a b c => (cpA_out b).trans (hA2q q a)) hmSm (hwq i (Nat.le_refl _)) hplt.1 hplt.2
              · skip
                have hjlt : j < 40 := (nI_ltI (a := j) (b := 40) (by omega) (by decide)).mp c130
                have hplt2 := hplt.1
                refine Ev.aload_n rfl rfl ?_
                refine Ev.getf rfl rfl m0 rfl ?_
                refine Ev.iload_n rfl rfl ?_
                refine Ev.iload_n rfl rfl ?_
                refine Ev.cS2 rfl rfl rfl (by decide) ⟨(Nat.le_refl _), (Nat.le_refl _)⟩ (m_pl1_ok k) ?_
                refine Ev.iload rfl rfl ?_
                refine Ev.iadd rfl ?_
                refine Ev.aload_n rfl rfl ?_
                refine Ev.getf rfl rfl m0 rfl ?_
                refine Ev.iload rfl rfl ?_
                refine Ev.ialdN (k := j) rfl m_read rfl ⟨(by omega), by decide⟩ ?_
                refine Ev.iastE (k := 970 + 40 * k + j) rfl m_all (nq_add (a := 970 + 40 * k) (b := j) rfl rfl) ⟨(by omega), by decide⟩ (fun τ4 f1 m_all => ?_)
                have m0 := frm.cell f1 m0 (by omega)
                have m_read := frm.cell f1 m_read (by omega)
                have m_has := frm.cell f1 m_has (by omega)
                have fr := fr.step f1 (by omega) (by omega)
                have m_all : τ4.2 (y + 1) = some (.inl (0, 4500, cpA A2 rq (970 + 40 * k) (j + 1))) := by
                  rw [← cpA_up]
                  exact m_all
                refine Ev.iinc (d := 1) rfl rfl rfl (by decide) rfl ?_
                refine Ev.goto (tgt := 124) rfl (by decide) ?_
                exact (ih124 (j + 1) hjlt (by omega) τ4 fr m0 m_all m_read m_has).fg (gs rfl (gs rfl (gn (gs rfl (gs (congrArg Value.int (nq_add (a := j) (b := 1) rfl (rfl : (1 : Int32) = nI 1)).symm) gz)))))
          exact (hl124 _ 0 (Nat.zero_le _) (Nat.lt_succ_self _) τ117 fr m0 m_all m_read m_has).fg (gs rfl (gs rfl (gn (gs rfl (gs (congrArg Value.int (rfl : (0 : Int32) = nI 0).symm) gz)))))
        · skip
          refine Ev.iconst (v := (-1)) rfl (by decide) ?_
          refine Ev.iret (ty := .int) rfl rfl rfl (Nat.le_refl _) (Nat.le_refl _) ?_
          have hF : ¬ txF (qP U n (0, f0) i).1 = 0 := fun h => by
            obtain ⟨a, b⟩ := txF_0 h
            rw [a, if_neg (fun h => nomatch h), b] at c109
            exact c109 rfl
          rw [← hQ]
          refine ⟨by rw [if_neg hF], fr, _, _, _, m0, m_all, m_read, m_has, fun q a b => ?_, ?_⟩
          · exact (hst.1 q (by omega) (by omega)).trans (hA0q q (by omega) (by omega) (by omega))
          · rw [if_neg hF]
            refine tx_mT hT hw (fun q a b c => (hst.1 q b c).trans (hA0q q a b c)) ((hst.1 2 (by decide) (by decide)).trans hA02) ?_ hst.2.2.1
            rw [hst.2.1]
            unfold txF
            split <;> rfl
      · skip
        refine Ev.aload_n rfl rfl ?_
        refine Ev.getf rfl rfl m0 rfl ?_
        rw [hst.2.2.2.1.2.2.1]
        refine Ev.zeq (tgt := 103) rfl (by decide) (fun c82 => ?_) (fun c82 => ?_)
        · skip
          have him : i = m := by
            by_cases e : i = m
            · exact e
            · have h := hm.1 i (by omega)
              first
              | exact absurd (b01 c75) (by rw [h.1]; decide)
              | exact absurd (nI_injL (b := 0) (by have := tK_le (U := U) (n := n) (e := Re (qP U n (0, f0) i).1); omega) (by decide) c82) h.2
          subst him
          refine Ev.aload_n rfl rfl ?_
          refine Ev.getf rfl rfl m0 rfl ?_
          refine Ev.iconst (v := 3) rfl (by decide) ?_
          refine Ev.ialdN (k := 3) rfl m_all (rfl : (3 : Int32) = nI 3) ⟨(by omega), by decide⟩ ?_
          rw [hst.2.1]
          refine Ev.zeq (tgt := 114) rfl (by decide) (fun c109 => ?_) (fun c109 => ?_)
          · skip
            refine Ev.aload_n rfl rfl ?_
            refine Ev.iload_n rfl rfl ?_
            refine Ev.iload_n rfl rfl ?_
            have hwm : Rw (qP U n (0, f0) i).1 = false := by
              cases hx : Rw (qP U n (0, f0) i).1
              · rfl
              · rw [hx, if_pos rfl] at c109
                exact absurd c109 (by decide)
            have hfm : Rf (qP U n (0, f0) i).1 = 0 := by
              rw [hwm, if_neg (fun h => nomatch h)] at c109
              exact nI_injL (b := 0) (by have := hoki.2.1; omega) (by decide) c109
            have hF0 : txF (qP U n (0, f0) i).1 = 0 := by
              unfold txF
              rw [hwm, if_neg (fun h => nomatch h)]
              exact hfm
            have hmSm := hmS hwm hfm
            have hA3 : Aq 3 = 0 := by
              rw [hst.2.1, hwm, if_neg (fun h => nomatch h), hfm]
              rfl
            have hA4 : Aq 4 = -1 := by
              rw [hst.2.2.1, hwm, if_neg (fun h => nomatch h)]
              exact qP_z i hfm
            have hTq : mT Aq 0 (T_tx T 0 (-1)) := tx_mT hT hw (fun q a b c => (hst.1 q b c).trans (hA0q q a b c)) ((hst.1 2 (by decide) (by decide)).trans hA02) hA3 hA4
            have hw1 : wT (T_tx T 0 (-1)) := tx_wT hw
            refine Ev.xV2 rfl rfl m0 rfl rfl (by decide) ⟨(Nat.le_refl _), (Nat.le_refl _)⟩ (m_keepsP_ok (T := T_tx T 0 (-1)) m0 m_all hTq.2.1 hw.2.2.1 hp) (fun τ117 f9 q9 => ?_)
            obtain ⟨A2, m_all, hA20, hA2q⟩ := q9
            have m0 := frm.cell f9 m0 (by omega)
            have m_read := frm.cell f9 m_read (by omega)
            have m_has := frm.cell f9 m_has (by omega)
            have fr := fr.step f9 (by omega) (by omega)
            have hplt := hp.lt hw.2.2.1
            have m_all : τ117.2 (y + 1) = some (.inl (0, 4500, cpA A2 rq (970 + 40 * k) 0)) := by
              rw [cpA_0]
              exact m_all
            refine Ev.istore_n rfl rfl rfl ?_
            refine Ev.iconst (v := 0) rfl (by decide) ?_
            refine Ev.istore rfl rfl rfl ?_
            have hl124 : ∀ (m124 : Nat) (j : Nat), (j ≤ 40) → (41 - j) < m124 → ∀ τ124 : ex_S, frm σ τ124 y (y + 4) → τ124.2 y = some (.inr (.inr (10, mo y gq))) → τ124.2 (y + 1) = some (.inl (0, 4500, (cpA A2 rq (970 + 40 * k) j))) → τ124.2 (y + 3) = some (.inl (0, 120, rq)) → τ124.2 (y + 2) = σ.2 (y + 2) → Ev Γ 0 0 m_M_text 0 0 124 [some (.ref y), some (.int (1 : Int32)), none, some (.int (nI k)), some (.int (nI j))] [] τ124 Q := by
              intro m124
              induction m124 with
              | zero => intro j _ hm; exact absurd hm (Nat.not_lt_zero _)
              | succ m124 ih124 =>
                intro j hJ124 hm124
                intro τ124 fr m0 m_all m_read m_has
                have hjl : j ≤ 40 := hJ124
                refine Ev.iload rfl rfl ?_
                refine Ev.iload_n rfl rfl ?_
                refine Ev.cS1 rfl rfl rfl (by decide) ⟨(Nat.le_refl _), (Nat.le_refl _)⟩ (m_size1_ok) ?_
                refine Ev.jge (tgt := 159) rfl (by decide) (fun c130 => ?_) (fun c130 => ?_)
                · skip
                  refine Ev.iload_n rfl rfl ?_
                  refine Ev.iret (ty := .int) rfl rfl rfl (Nat.le_refl _) (Nat.le_refl _) ?_
                  have hj : j = 40 := Nat.le_antisymm hjl (Nat.le_of_not_lt (fun h => c130 (nI_lt (b := 40) h (by decide))))
                  subst hj
                  rw [← hQ]
                  refine ⟨by rw [if_pos hF0], fr, _, _, _, m0, m_all, m_read, m_has, fun q a b => ?_, ?_⟩
                  · exact (cpA_out (by omega)).trans ((hA2q q (by omega)).trans ((hst.1 q (by omega) (by omega)).trans (hA0q q (by omega) (by omega) (by omega))))
                  · rw [if_pos hF0]
                    exact putP_mT hTq hw1 ((cpA_out (by omega)).trans hA20) (fun q hq => cpA_in hq) (fun q a b c => (cpA_out b).trans (hA2q q a)) hmSm (hwq i (Nat.le_refl _)) hplt.1 hplt.2
                · skip
                  have hjlt : j < 40 := (nI_ltI (a := j) (b := 40) (by omega) (by decide)).mp c130
                  have hplt2 := hplt.1
                  refine Ev.aload_n rfl rfl ?_
                  refine Ev.getf rfl rfl m0 rfl ?_
                  refine Ev.iload_n rfl rfl ?_
                  refine Ev.iload_n rfl rfl ?_
                  refine Ev.cS2 rfl rfl rfl (by decide) ⟨(Nat.le_refl _), (Nat.le_refl _)⟩ (m_pl1_ok k) ?_
                  refine Ev.iload rfl rfl ?_
                  refine Ev.iadd rfl ?_
                  refine Ev.aload_n rfl rfl ?_
                  refine Ev.getf rfl rfl m0 rfl ?_
                  refine Ev.iload rfl rfl ?_
                  refine Ev.ialdN (k := j) rfl m_read rfl ⟨(by omega), by decide⟩ ?_
                  refine Ev.iastE (k := 970 + 40 * k + j) rfl m_all (nq_add (a := 970 + 40 * k) (b := j) rfl rfl) ⟨(by omega), by decide⟩ (fun τ5 f1 m_all => ?_)
                  have m0 := frm.cell f1 m0 (by omega)
                  have m_read := frm.cell f1 m_read (by omega)
                  have m_has := frm.cell f1 m_has (by omega)
                  have fr := fr.step f1 (by omega) (by omega)
                  have m_all : τ5.2 (y + 1) = some (.inl (0, 4500, cpA A2 rq (970 + 40 * k) (j + 1))) := by
                    rw [← cpA_up]
                    exact m_all
                  refine Ev.iinc (d := 1) rfl rfl rfl (by decide) rfl ?_
                  refine Ev.goto (tgt := 124) rfl (by decide) ?_
                  exact (ih124 (j + 1) hjlt (by omega) τ5 fr m0 m_all m_read m_has).fg (gs rfl (gs rfl (gn (gs rfl (gs (congrArg Value.int (nq_add (a := j) (b := 1) rfl (rfl : (1 : Int32) = nI 1)).symm) gz)))))
            exact (hl124 _ 0 (Nat.zero_le _) (Nat.lt_succ_self _) τ117 fr m0 m_all m_read m_has).fg (gs rfl (gs rfl (gn (gs rfl (gs (congrArg Value.int (rfl : (0 : Int32) = nI 0).symm) gz)))))
          · skip
            refine Ev.iconst (v := (-1)) rfl (by decide) ?_
            refine Ev.iret (ty := .int) rfl rfl rfl (Nat.le_refl _) (Nat.le_refl _) ?_
            have hF : ¬ txF (qP U n (0, f0) i).1 = 0 := fun h => by
              obtain ⟨a, b⟩ := txF_0 h
              rw [a, if_neg (fun h => nomatch h), b] at c109
              exact c109 rfl
            rw [← hQ]
            refine ⟨by rw [if_neg hF], fr, _, _, _, m0, m_all, m_read, m_has, fun q a b => ?_, ?_⟩
            · exact (hst.1 q (by omega) (by omega)).trans (hA0q q (by omega) (by omega) (by omega))
            · rw [if_neg hF]
              refine tx_mT hT hw (fun q a b c => (hst.1 q b c).trans (hA0q q a b c)) ((hst.1 2 (by decide) (by decide)).trans hA02) ?_ hst.2.2.1
              rw [hst.2.1]
              unfold txF
              split <;> rfl
        · skip
          have hwi : Rw (qP U n (0, f0) i).1 = false := b00 c75
          have hk0 : ¬ tK U n (Re (qP U n (0, f0) i).1) = 0 := fun h => c82 (congrArg nI h)
          have hlt : i < m := by
            by_cases e : i = m
            · rcases hm.2.1 with h | h
              · rw [e] at hwi
                rw [hwi] at h
                cases h
              · rw [e] at hk0
                exact absurd h hk0
            · omega
          have hwSi := hwq i hie
          by_cases hC : tK U n (Re (qP U n (0, f0) i).1) = 3 ∧ 15 ≤ tW U n (Re (qP U n (0, f0) i).1) ∧ tW U n (Re (qP U n (0, f0) i).1) ≤ 20
          · skip
            have hqn : (qP U n (0, f0) (i + 1)) = (rel U n (lpE U n (wkP (tW U n (Re (qP U n (0, f0) i).1))) (qP U n (0, f0) i).2 (qP U n (0, f0) i).1), if Rw (rel U n (lpE U n (wkP (tW U n (Re (qP U n (0, f0) i).1))) (qP U n (0, f0) i).2 (qP U n (0, f0) i).1)) = false ∧ Rf (rel U n (lpE U n (wkP (tW U n (Re (qP U n (0, f0) i).1))) (qP U n (0, f0) i).2 (qP U n (0, f0) i).1)) = 0 then LpF U n (wkP (tW U n (Re (qP U n (0, f0) i).1))) (qP U n (0, f0) i).2 (qP U n (0, f0) i).1 else (qP U n (0, f0) i).2) := if_pos hC
            refine Ev.iload_n rfl rfl ?_
            refine Ev.zne (tgt := 96) rfl (by decide) (fun c86 => ?_) (fun c86 => absurd c86 (by decide))
            refine Ev.aload_n rfl rfl ?_
            refine Ev.xV0u rfl rfl m0 rfl rfl (by decide) ⟨(Nat.le_refl _), (Nat.le_refl _)⟩ (m_plL_any m0 m_all m_read ht hA0 hst hoki hwi hC.1 hC.2.1 hC.2.2 hwSi.1 (c := cq) hrc (by omega) (fun f => hmS hwi f)) (fun τ90 f9 q9 => ?_)
            obtain ⟨g90, A90, rd90, ab90, m0, m_all, m_read, q_has, hst, ⟨c1, hrc1, hcl1, hmS1⟩⟩ := q9
            have m_has := q_has.trans m_has
            have fr := fr.step f9 (by omega) (by omega)
            have hxok : Rok U n (lpE U n (wkP (tW U n (Re (qP U n (0, f0) i).1))) (qP U n (0, f0) i).2 (qP U n (0, f0) i).1) := (lpE_ok ht hoki hwi hk0).1
            have hst1 : MSt0 U n A0 A90 g90 (qP U n (0, f0) (i + 1)).1 := by rw [hqn]; exact hst.m0
            have hmSn : Rw (qP U n (0, f0) (i + 1)).1 = false → Rf (qP U n (0, f0) (i + 1)).1 = 0 → mP rd90 0 (qP U n (0, f0) (i + 1)).2 := by
              rw [hqn]
              intro hw9 hf9
              have hr := rel_re ht hxok hw9
              have hf8 : Rf (lpE U n (wkP (tW U n (Re (qP U n (0, f0) i).1))) (qP U n (0, f0) i).2 (qP U n (0, f0) i).1) = 0 := hr.2.2.symm.trans hf9
              show mP rd90 0 (if Rw (rel U n (lpE U n (wkP (tW U n (Re (qP U n (0, f0) i).1))) (qP U n (0, f0) i).2 (qP U n (0, f0) i).1)) = false ∧ Rf (rel U n (lpE U n (wkP (tW U n (Re (qP U n (0, f0) i).1))) (qP U n (0, f0) i).2 (qP U n (0, f0) i).1)) = 0 then _ else _)
              rw [if_pos ⟨hw9, hf9⟩]
              exact hmS1 hr.2.1 hf8
            refine Ev.goto (tgt := 71) rfl (by decide) ?_
            exact (ih71 (i + 1) g90 A90 rd90 (⟨by omega, hst1, ⟨c1, hrc1, by omega⟩, hmSn⟩) (by omega) τ90 fr m0 m_all m_read m_has).fg (gs rfl (gs rfl (gs rfl (gn (gn gz)))))
          · skip
            have hqn : (qP U n (0, f0) (i + 1)) = ((true, Re (qP U n (0, f0) i).1, Rf (qP U n (0, f0) i).1, Rp (qP U n (0, f0) i).1), (qP U n (0, f0) i).2) := if_neg hC
            refine Ev.iload_n rfl rfl ?_
            refine Ev.zne (tgt := 96) rfl (by decide) (fun c86 => ?_) (fun c86 => absurd c86 (by decide))
            refine Ev.aload_n rfl rfl ?_
            refine Ev.xV0u rfl rfl m0 rfl rfl (by decide) ⟨(Nat.le_refl _), (Nat.le_refl _)⟩ (m_no_pla m0 m_all m_read ht hA0 hst hoki hwi hC) (fun τ90 f9 q9 => ?_)
            obtain ⟨g90, A90, rd90, m0, m_all, m_read, q_has, hst, hrr⟩ := q9
            have m_has := q_has.trans m_has
            have fr := fr.step f9 (by omega) (by omega)
            have hst1 : MSt0 U n A0 A90 g90 (qP U n (0, f0) (i + 1)).1 := by rw [hqn]; exact hst
            have hmSn : Rw (qP U n (0, f0) (i + 1)).1 = false → Rf (qP U n (0, f0) (i + 1)).1 = 0 → mP rd90 0 (qP U n (0, f0) (i + 1)).2 := by
              rw [hqn]
              intro hw9
              exact (nomatch hw9)
            have hrc1 : rd90 0 = nI cq := by rw [hrr]; exact hrc
            refine Ev.goto (tgt := 71) rfl (by decide) ?_
            exact (ih71 (i + 1) g90 A90 rd90 (⟨by omega, hst1, ⟨cq, hrc1, by omega⟩, hmSn⟩) (by omega) τ90 fr m0 m_all m_read m_has).fg (gs rfl (gs rfl (gs rfl (gn (gn gz)))))
  exact (hl71 _ 0 g68 (upd (upd (upd A 2 (0 : Int32)) 3 (0 : Int32)) 4 (-1 : Int32)) rd0 (⟨Nat.zero_le _, hst0, ⟨0, hrc0, Nat.le_refl _⟩, fun _ _ => ⟨hrc0, fun k hk => absurd hk (Nat.not_lt_zero _)⟩⟩) (Nat.lt_succ_self _) τ68 fr m0 m_all m_read m_has).fg (gs rfl (gs rfl (gs rfl (gn (gn gz)))))
end
end
