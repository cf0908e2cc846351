/-! Rows of calls. -/
noncomputable section
/-- a callee's frames and locals fit the caller's -/
def ex_rm (mi z : Nat) : Bool := Nat.ble (pg_fr z + 1) (pg_fr mi) && Nat.ble (8 + (pg_ml z + 11) + pg_lo z) (pg_lo mi)
section
variable {Γ : ex_G} {RC RS mi cells slots pc : Nat} {L : ex_L} {st st0 : List Value} {σ : ex_S} {Q Q' : Option Value → ex_S → Prop}
theorem ex_callB {z idx mc ms : Nat} {p : Program} {R : Room} {s : State} {m : MethodId} {args : Array Value} {meth : Method} {c : Code} (X : ex_X Γ mi p R s m args meth c) (hz : pg_okM z) (hl : Cond.methodLink (pg_on (pg_oi mi)) idx (pg_y z) ∈ lw_g) (hrm : ex_rm mi z = true) :
    CallB R s args (pg_on (pg_oi mi)) idx (pg_y z) (pg_b z) (pg_ml z) (pg_rt z) (ex_w z) { frames := pg_fr z, cells := mc, slots := ms, locals := pg_lo z } mc ms (pg_na z) := by
  obtain ⟨h1, h2, h3, h4, h5, h6⟩ := hz
  have hts := X.2.2.2.2.2.1
  simp only [ex_rm, Bool.and_eq_true] at hrm
  exact callB_of (pg_na z) hts (ex_goodIn z h1) rfl rfl rfl (hts _ h2) (hts _ hl) h5 ⟨Nat.le_trans (Nat.le_of_ble_eq_true hrm.1) X.2.2.2.2.2.2.2.2.1, Nat.le_trans (Nat.le_of_ble_eq_true hrm.2) X.2.2.2.2.2.2.2.2.2.1⟩
theorem Ev.callV {idx z b ci mc ms : Nat} {as : List Value} {fs : List Value} (hi : pg_ins mi pc = some (.invokevirtual idx, 3)) (hk : (pg_lks.getD (pg_oi mi) []).lookup idx = some (0, z)) (hb : σ.2 b = some (.inr (.inr (ci, fs)))) (hci : (pg_cl[ci]?.map fun r => r.1) = some (pg_y z).cls) (hst : st0 = as.reverse ++ .ref b :: st) (hna : as.length = pg_na z) (hrm : ex_rm mi z = true) (hw : (st.map fun v => v.category).sum ≤ 8) (hc : cells + mc ≤ RC ∧ slots + ms ≤ RS) (hR : Ret Γ z mc ms (.ref b :: as) σ Q') (h : ∀ v σ', Q' v σ' → Ev Γ RC RS mi (cells + mc) (slots + ms) (pc + 3) L (v.toList ++ st) σ' Q) : Ev Γ RC RS mi cells slots pc L st0 σ Q := by
  intro p l e R s m args below meth c H locs ls Z X r1 r2 hM hS hL hn hZ
  have hts := X.2.2.2.2.2.1
  have hI := X.2.2.2.2.2.2.2.2.2.2.1
  obtain ⟨hz, hkind⟩ := pg_lk_ok _ _ (ex_lookup _ _ _ hk)
  obtain ⟨hl, hv⟩ : Cond.methodLink (pg_on (pg_oi mi)) idx (pg_y z) ∈ lw_g ∧ pg_okV z := by
    rcases hkind with ⟨-, q⟩ | ⟨q, -⟩ | ⟨q, -⟩ | ⟨q, -⟩
    · exact q
    · cases q
    · cases q
    · cases q
  obtain ⟨r, hr, hrc⟩ := Option.map_eq_some_iff.mp hci
  obtain ⟨cell, g1, g2, g3⟩ := va_recv hI.1 (ex_one hM hb) hr (q0 := 0) (fs := fs) rfl
  refine ex_call (z := z) (σ := σ) (a := #[]) X r1 r2 hS hL hn hZ (va_runV (As := as) (rest := st) (C := (pg_y z).cls) ⟨X.1, X.2.1, X.2.2.2.1, X.2.2.2.2.1, hts⟩ (hR l) ⟨ex_callB X hz hl hrm, hts _ hv.1, hts _ hv.2⟩ ⟨ex_blind, ⟨cell, g1, g2, by rw [← hrc]; exact g3⟩, fun U hU hW => ⟨rfl, hI.at hW hS hU, by rw [hU]; exact hM⟩⟩ rfl hna (hL.1.trans hn) hst (by show 2 * 0 + _ ≤ 8; omega) (X.2.2.2.2.2.2.2.2.2.2.2 _ _ _ hi) (by rw [r1, r2]; exact hc)) h
theorem Ev.callVS {idx z j : Nat} {q : Nat × String} {as : List Value} (hi : pg_ins mi pc = some (.invokevirtual idx, 3)) (hk : (pg_lks.getD (pg_oi mi) []).lookup idx = some (0, z)) (hj : ex_tx[j]? = some q) (hcl : (pg_y z).cls = "java/lang/String") (hst : st0 = as.reverse ++ .ref (gS Γ j).1 :: st) (hna : as.length = pg_na z) (hrm : ex_rm mi z = true) (hw : (st.map fun v => v.category).sum ≤ 8) (hc : cells ≤ RC ∧ slots ≤ RS) (hR : Ret Γ z 0 0 (.ref (gS Γ j).1 :: as) σ Q') (h : ∀ v σ', Q' v σ' → Ev Γ RC RS mi cells slots (pc + 3) L (v.toList ++ st) σ' Q) : Ev Γ RC RS mi cells slots pc L st0 σ Q := by
  intro p l e R s m args below meth c H locs ls Z X r1 r2 hM hS hL hn hZ
  have hts := X.2.2.2.2.2.1
  have hI := X.2.2.2.2.2.2.2.2.2.2.1
  obtain ⟨hz, hkind⟩ := pg_lk_ok _ _ (ex_lookup _ _ _ hk)
  obtain ⟨hl, hv⟩ : Cond.methodLink (pg_on (pg_oi mi)) idx (pg_y z) ∈ lw_g ∧ pg_okV z := by
    rcases hkind with ⟨-, q⟩ | ⟨q, -⟩ | ⟨q, -⟩ | ⟨q, -⟩
    · exact q
    · cases q
    · cases q
    · cases q
  obtain ⟨cell, g1, g2, g3, g4⟩ := (hI.2.2.2.2.1 j _ hj).1
  refine ex_call (z := z) (σ := σ) (a := #[]) X r1 r2 hS hL hn hZ (va_runV (As := as) (rest := st) (C := (pg_y z).cls) ⟨X.1, X.2.1, X.2.2.2.1, X.2.2.2.2.1, hts⟩ (hR l) ⟨ex_callB X hz hl hrm, hts _ hv.1, hts _ hv.2⟩ ⟨ex_blind, ⟨cell, by rw [hS.2.1 _ (Array.getElem?_eq_some_iff.mp g1).1 g4]; exact g1, g2, by rw [hcl]; exact g3⟩, fun U hU hW => ⟨rfl, hI.at hW hS hU, by rw [hU]; exact hM⟩⟩ rfl hna (hL.1.trans hn) hst (by show 2 * 0 + _ ≤ 8; omega) (X.2.2.2.2.2.2.2.2.2.2.2 _ _ _ hi) (by rw [r1, r2]; exact hc)) h
theorem Ev.callS {idx z mc ms : Nat} {as : List Value} (hi : pg_ins mi pc = some (.invokestatic idx, 3)) (hk : (pg_lks.getD (pg_oi mi) []).lookup idx = some (1, z)) (hst : st0 = as.reverse ++ st) (hna : as.length = pg_na z) (hrm : ex_rm mi z = true) (hw : (st.map fun v => v.category).sum ≤ 8) (hc : cells + mc ≤ RC ∧ slots + ms ≤ RS) (hR : Ret Γ z mc ms as σ Q') (h : ∀ v σ', Q' v σ' → Ev Γ RC RS mi (cells + mc) (slots + ms) (pc + 3) L (v.toList ++ st) σ' Q) : Ev Γ RC RS mi cells slots pc L st0 σ Q := by
  intro p l e R s m args below meth c H locs ls Z X r1 r2 hM hS hL hn hZ
  have hts := X.2.2.2.2.2.1
  have hI := X.2.2.2.2.2.2.2.2.2.2.1
  obtain ⟨hz, hkind⟩ := pg_lk_ok _ _ (ex_lookup _ _ _ hk)
  obtain ⟨hl, hv⟩ : Cond.methodLink (pg_on (pg_oi mi)) idx (pg_y z) ∈ lw_g ∧ pg_okS z := by
    rcases hkind with ⟨q, -⟩ | ⟨-, q⟩ | ⟨q, -⟩ | ⟨q, -⟩
    · cases q
    · exact q
    · cases q
    · cases q
  refine ex_call (z := z) (σ := σ) (a := #[]) X r1 r2 hS hL hn hZ (va_runS (As := as) (rest := st) ⟨X.1, X.2.1, X.2.2.2.1, X.2.2.2.2.1, hts⟩ (hR l) ⟨ex_callB X hz hl hrm, hts _ hv⟩ ⟨ex_blind, fun U hU hW => ⟨rfl, hI.at hW hS hU, by rw [hU]; exact hM⟩⟩ rfl hna (hL.1.trans hn) hst (by show 2 * 0 + _ ≤ 8; omega) (X.2.2.2.2.2.2.2.2.2.2.2 _ _ _ hi) (by rw [r1, r2]; exact hc)) h
theorem Ev.callI {idx z b mc ms : Nat} {as : List Value} (hi : pg_ins mi pc = some (.invokespecial idx, 3)) (hk : (pg_lks.getD (pg_oi mi) []).lookup idx = some (2, z)) (hst : st0 = as.reverse ++ .ref b :: st) (hna : as.length = pg_na z) (hrm : ex_rm mi z = true) (hw : (st.map fun v => v.category).sum ≤ 8) (hc : cells + mc ≤ RC ∧ slots + ms ≤ RS) (hR : Ret Γ z mc ms (.ref b :: as) σ Q') (h : ∀ v σ', Q' v σ' → Ev Γ RC RS mi (cells + mc) (slots + ms) (pc + 3) L (v.toList ++ st) σ' Q) : Ev Γ RC RS mi cells slots pc L st0 σ Q := by
  intro p l e R s m args below meth c H locs ls Z X r1 r2 hM hS hL hn hZ
  have hts := X.2.2.2.2.2.1
  have hI := X.2.2.2.2.2.2.2.2.2.2.1
  obtain ⟨hz, hkind⟩ := pg_lk_ok _ _ (ex_lookup _ _ _ hk)
  obtain ⟨hl, hv⟩ : Cond.methodLink (pg_on (pg_oi mi)) idx (pg_y z) ∈ lw_g ∧ pg_okI z := by
    rcases hkind with ⟨q, -⟩ | ⟨q, -⟩ | ⟨-, q⟩ | ⟨q, -⟩
    · cases q
    · cases q
    · exact q
    · cases q
  have hB := ex_callB (mc := mc) (ms := ms) X hz hl hrm
  rw [hv.2.2] at hB
  refine ex_call (z := z) (σ := σ) (a := #[]) X r1 r2 hS hL hn hZ (va_runI (As := as) (rest := st) ⟨X.1, X.2.1, X.2.2.2.1, X.2.2.2.2.1, hts⟩ (hR l) ⟨hB, hv.2.1, hts _ hv.1⟩ ⟨ex_blind, fun U hU hW => ⟨rfl, hI.at hW hS hU, by rw [hU]; exact hM⟩⟩ rfl hna (hL.1.trans hn) hst (by show 2 * 0 + _ ≤ 8; omega) (X.2.2.2.2.2.2.2.2.2.2.2 _ _ _ hi) (by rw [r1, r2]; exact hc)) h
theorem Ev.callIN {idx z b mc ms : Nat} {as : List Value} (hi : pg_ins mi pc = some (.invokespecial idx, 3)) (hk : (pg_lks.getD (pg_oi mi) []).lookup idx = some (5, z)) (hst : st0 = as.reverse ++ .ref b :: st) (hna : as.length = pg_na z) (hrm : ex_rm mi z = true) (hw : (st.map fun v => v.category).sum ≤ 8) (hc : cells + mc ≤ RC ∧ slots + ms ≤ RS) (hR : Ret Γ z mc ms (.ref b :: as) σ Q') (h : ∀ v σ', Q' v σ' → Ev Γ RC RS mi (cells + mc) (slots + ms) (pc + 3) L (v.toList ++ st) σ' Q) : Ev Γ RC RS mi cells slots pc L st0 σ Q := by
  intro p l e R s m args below meth c H locs ls Z X r1 r2 hM hS hL hn hZ
  have hts := X.2.2.2.2.2.1
  have hI := X.2.2.2.2.2.2.2.2.2.2.1
  obtain ⟨hz, hkind⟩ := pg_lk_ok _ _ (ex_lookup _ _ _ hk)
  obtain ⟨hl, hv⟩ : Cond.methodLinkNest (pg_on (pg_oi mi)) idx (pg_y z) "SchoolDoors" ∈ lw_tbl ∧ pg_okI z := by
    rcases hkind with ⟨q, -⟩ | ⟨q, -⟩ | ⟨q, -⟩ | ⟨-, q⟩
    · cases q
    · cases q
    · cases q
    · exact q
  obtain ⟨h1, h2, h3, h4, h5, h6⟩ := hz
  have hrm' := hrm
  simp only [ex_rm, Bool.and_eq_true] at hrm'
  have hB := va_cnB (R := R) (rm := { frames := pg_fr z, cells := mc, slots := ms, locals := pg_lo z }) (mc := mc) (ms := ms) (pg_na z) hts (ex_goodIn z h1) rfl rfl rfl (hI.2.2.2.2.2.1 _ _ _ _ hl) (hts _ h2) h5 ⟨Nat.le_trans (Nat.le_of_ble_eq_true hrm'.1) X.2.2.2.2.2.2.2.2.1, Nat.le_trans (Nat.le_of_ble_eq_true hrm'.2) X.2.2.2.2.2.2.2.2.2.1⟩
  rw [hv.2.2] at hB
  refine ex_call (z := z) (σ := σ) (a := #[]) X r1 r2 hS hL hn hZ (va_runIN (As := as) (rest := st) ⟨X.1, X.2.1, X.2.2.2.1, X.2.2.2.2.1, hts⟩ (hR l) ⟨hB, hv.2.1, hts _ hv.1⟩ ⟨ex_blind, fun U hU hW => ⟨rfl, hI.at hW hS hU, by rw [hU]; exact hM⟩⟩ rfl hna (hL.1.trans hn) hst (by show 2 * 0 + _ ≤ 8; omega) (X.2.2.2.2.2.2.2.2.2.2.2 _ _ _ hi) (by rw [r1, r2]; exact hc)) h
theorem Ev.mmax {idx : Nat} {x y : Int32} (hi : pg_ins mi pc = some (.invokestatic idx, 3)) (hk : (pg_mmaxs.getD (pg_oi mi) []).lookup idx = some ()) (hf : Nat.ble 1 (pg_fr mi) = true) (hw : (st.map fun v => v.category).sum + 13 ≤ pg_lo mi) (hc : cells ≤ RC ∧ slots ≤ RS) (h : Ev Γ RC RS mi cells slots (pc + 3) L (.int (if x < y then y else x) :: st) σ Q) : Ev Γ RC RS mi cells slots pc L (.int y :: .int x :: st) σ Q := by
  intro p l e R s m args below meth c H locs ls Z X r1 r2 hM hS hL hn hZ
  have hts := X.2.2.2.2.2.1
  exact va_mmax X.1 X.2.1 (by rw [X.2.2.2.1, hL.1, hn]) X.2.2.2.2.1 (hts _ (pg_mmax_ok _ _ (ex_lookup _ _ _ hk))) (hts _ ps_mmax.1) (hts _ ps_mmax.2.1) (hts _ ps_mmax.2.2) (Nat.le_trans (Nat.le_of_ble_eq_true hf) X.2.2.2.2.2.2.2.2.1) (Nat.le_trans hw X.2.2.2.2.2.2.2.2.2.1) (by rw [r1]; exact hc.1) (by rw [r2]; exact hc.2) (X.2.2.2.2.2.2.2.2.2.2.2 _ _ _ hi) (h p l e R s m args below meth c H locs ls Z X r1 r2 hM hS hL hn hZ)
theorem Ev.mmin {idx : Nat} {x y : Int32} (hi : pg_ins mi pc = some (.invokestatic idx, 3)) (hk : (pg_mmins.getD (pg_oi mi) []).lookup idx = some ()) (hf : Nat.ble 1 (pg_fr mi) = true) (hw : (st.map fun v => v.category).sum + 13 ≤ pg_lo mi) (hc : cells ≤ RC ∧ slots ≤ RS) (h : Ev Γ RC RS mi cells slots (pc + 3) L (.int (if y < x then y else x) :: st) σ Q) : Ev Γ RC RS mi cells slots pc L (.int y :: .int x :: st) σ Q := by
  intro p l e R s m args below meth c H locs ls Z X r1 r2 hM hS hL hn hZ
  have hts := X.2.2.2.2.2.1
  exact va_mmin X.1 X.2.1 (by rw [X.2.2.2.1, hL.1, hn]) X.2.2.2.2.1 (hts _ (pg_mmin_ok _ _ (ex_lookup _ _ _ hk))) (hts _ ps_mmin.1) (hts _ ps_mmin.2.1) (hts _ ps_mmin.2.2) (Nat.le_trans (Nat.le_of_ble_eq_true hf) X.2.2.2.2.2.2.2.2.1) (Nat.le_trans hw X.2.2.2.2.2.2.2.2.2.1) (by rw [r1]; exact hc.1) (by rw [r2]; exact hc.2) (X.2.2.2.2.2.2.2.2.2.2.2 _ _ _ hi) (h p l e R s m args below meth c H locs ls Z X r1 r2 hM hS hL hn hZ)
theorem Ev.mabs {idx : Nat} {x : Int32} (hi : pg_ins mi pc = some (.invokestatic idx, 3)) (hk : (pg_mabss.getD (pg_oi mi) []).lookup idx = some ()) (hf : Nat.ble 1 (pg_fr mi) = true) (hw : (st.map fun v => v.category).sum + 13 ≤ pg_lo mi) (hc : cells ≤ RC ∧ slots ≤ RS) (h : Ev Γ RC RS mi cells slots (pc + 3) L (.int (if 0 ≤ x then x else 0 - x) :: st) σ Q) : Ev Γ RC RS mi cells slots pc L (.int x :: st) σ Q := by
  intro p l e R s m args below meth c H locs ls Z X r1 r2 hM hS hL hn hZ
  have hts := X.2.2.2.2.2.1
  exact va_mabs X.1 X.2.1 (by rw [X.2.2.2.1, hL.1, hn]) X.2.2.2.2.1 (hts _ (pg_mabs_ok _ _ (ex_lookup _ _ _ hk))) (hts _ ps_mabs.1) (hts _ ps_mabs.2.1) (hts _ ps_mabs.2.2) (Nat.le_trans (Nat.le_of_ble_eq_true hf) X.2.2.2.2.2.2.2.2.1) (Nat.le_trans hw X.2.2.2.2.2.2.2.2.2.1) (by rw [r1]; exact hc.1) (by rw [r2]; exact hc.2) (X.2.2.2.2.2.2.2.2.2.2.2 _ _ _ hi) (h p l e R s m args below meth c H locs ls Z X r1 r2 hM hS hL hn hZ)
theorem Ev.objInit {idx a : Nat} (hi : pg_ins mi pc = some (.invokespecial idx, 3)) (hk : (pg_obs.getD (pg_oi mi) []).lookup idx = some ()) (hf : Nat.ble 1 (pg_fr mi) = true) (hw : (st.map fun v => v.category).sum + 12 ≤ pg_lo mi) (h : Ev Γ RC RS mi cells slots (pc + 3) L st σ Q) : Ev Γ RC RS mi cells slots pc L (.ref a :: st) σ Q := by
  intro p l e R s m args below meth c H locs ls Z X r1 r2 hM hS hL hn hZ
  have hts := X.2.2.2.2.2.1
  exact W.objInit X.1 X.2.1 X.2.2.2.2.1 (hts _ (pg_ob_ok _ _ (ex_lookup _ _ _ hk))) (hts _ ps_obj.1) (hts _ ps_obj.2) rfl (by show ls.size = _; rw [X.2.2.2.1, hL.1, hn]) rfl (X.2.2.2.2.2.2.2.2.2.2.2 _ _ _ hi) (Nat.le_trans (Nat.le_of_ble_eq_true hf) X.2.2.2.2.2.2.2.2.1) (by show 2 * 0 + _ + 12 ≤ _; exact Nat.le_trans (by omega) X.2.2.2.2.2.2.2.2.2.1) (h p l e R s m args below meth c H locs ls Z X r1 r2 hM hS hL hn hZ)
end
end
