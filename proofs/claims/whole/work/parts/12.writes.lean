/-! Rows of instructions that write or make cells, of statics and texts. -/
noncomputable section
section
variable {Γ : ex_G} {RC RS mi cells slots pc : Nat} {L : ex_L} {st : List Value} {σ : ex_S} {Q : Option Value → ex_S → Prop}
theorem pg_fin_of {ci k : Nat} {r : vw_C} (hr : pg_cl[ci]? = some r) {b : Bool} (h : pg_fin ci k = b) : (r.2.1 k).2.2.2 = b := by
  unfold pg_fin at h
  rw [hr] at h
  exact h
theorem Ev.putf {idx ci k a : Nat} {fs : List Value} {v : Value} (hi : pg_ins mi pc = some (.putfield idx, 3)) (hf : (pg_fls.getD (pg_oi mi) []).lookup idx = some (ci, k)) (ha : σ.2 a = some (.inr (.inr (ci, fs)))) (hfin : pg_fin ci k = false) (hn1 : narrow (pg_fty ci k) v = v) (hn2 : fits (pg_fty ci k) v = true) (hl : k < fs.length) (h : Ev Γ RC RS mi cells slots (pc + 3) L st (ex_put σ a (.inr (.inr (ci, fs.set k v)))) Q) : Ev Γ RC RS mi cells slots pc L (v :: .ref a :: st) σ Q := by
  intro p l e R s m args below meth c H locs ls Z X r1 r2 hM hS hL hn hZ
  obtain ⟨r, hr, hk, hw⟩ := pg_fl_ok _ _ (ex_lookup _ _ _ hf)
  obtain ⟨fw, fp, fn, -, -⟩ := pc_all ci r hr
  have hts := X.2.2.2.2.2.1
  have hK := X.2.2.2.2.2.2.2.2.2.2.1.1
  have hap := va_apart (C := r.1) (T := r.2.1) (N := r.2.2) (own := pg_on (pg_oi mi)) hts fw _ fp fn hK hr
  obtain ⟨hge, r', h1, cell, q1, q2, q3, q4⟩ := hM.2.2 a _ ha
  have hrr : r' = r := Option.some.inj (h1.symm.trans hr)
  subst hrr
  obtain ⟨hSl, hfc, kC, hkC, hkind⟩ := hK.1 ci _ hr
  obtain ⟨cf, kf, fi, f, hfi, hsl⟩ := hSl k hk
  have hlay := hts _ (fw _ (u_in_lay hk))
  unfold u_lay at hlay
  rw [if_neg (by rw [pg_fin_of hr hfin]; decide)] at hlay
  have hst := (u_facts hfc hkC (u_lays hts fw hk) hfi).1
  have h6 := u_store hfc hkC hkind hlay hfi (fp k hk) hn1 hn2
  refine W.putK X.1 X.2.1 (f := f) ⟨X.2.2.2.2.1, hts _ hw, ⟨_, _, _, hfi⟩, hst⟩ (by rw [q2]; exact h6) q1 q3 (by rw [hsl]; exact k2_hasslot (q4 k hk)) rfl rfl (X.2.2.2.2.2.2.2.2.2.2.2 _ _ _ hi) fun H' e1 e2 e3 => ?_
  rw [hsl] at e1 ⊢
  exact h p l e R s m args below meth c H' _ ls Z X r1 r2 (hM.put e2 e3 hge ⟨_, hr, t_OB.to (V := updV (vp_V fs) k v) ⟨_, e1, q2, q3, t_set q4 hap hk v⟩ (fun j _ => vp_updV_set hl v j)⟩) (hS.put e2 e3 hge) hL hn hZ
theorem Ev.putF {idx ci k a : Nat} {fs : List Value} {v : Value} (hi : pg_ins mi pc = some (.putfield idx, 3)) (hf : (pg_fls.getD (pg_oi mi) []).lookup idx = some (ci, k)) (ha : σ.2 a = some (.inr (.inr (ci, fs)))) (hfin : pg_fin ci k = true) (hnm : (pg_y mi).name = "<init>") (hdc : (pg_cl[ci]?.map fun r => (r.2.1 k).1) = some (pg_on (pg_oi mi))) (hn1 : narrow (pg_fty ci k) v = v) (hn2 : fits (pg_fty ci k) v = true) (hl : k < fs.length) (h : Ev Γ RC RS mi cells slots (pc + 3) L st (ex_put σ a (.inr (.inr (ci, fs.set k v)))) Q) : Ev Γ RC RS mi cells slots pc L (v :: .ref a :: st) σ Q := by
  intro p l e R s m args below meth c H locs ls Z X r1 r2 hM hS hL hn hZ
  obtain ⟨r, hr, hk, hw⟩ := pg_fl_ok _ _ (ex_lookup _ _ _ hf)
  obtain ⟨fw, fp, fn, -, -⟩ := pc_all ci r hr
  have hts := X.2.2.2.2.2.1
  have hown := X.2.2.2.2.1
  have hK := X.2.2.2.2.2.2.2.2.2.2.1.1
  have hap := va_apart (C := r.1) (T := r.2.1) (N := r.2.2) (own := pg_on (pg_oi mi)) hts fw _ fp fn hK hr
  obtain ⟨hge, r', h1, cell, q1, q2, q3, q4⟩ := hM.2.2 a _ ha
  have hrr : r' = r := Option.some.inj (h1.symm.trans hr)
  subst hrr
  obtain ⟨hSl, hfc, kC, hkC, hkind⟩ := hK.1 ci _ hr
  obtain ⟨cf, kf, fi, f, hfi, hsl⟩ := hSl k hk
  have hdecl : (r'.2.1 k).1 = pg_on (pg_oi mi) := by
    rw [hr] at hdc
    exact Option.some.inj hdc
  have hlay := hts _ (fw _ (u_in_lay hk))
  unfold u_lay at hlay
  rw [if_pos (pg_fin_of hr hfin)] at hlay
  have hst := (u_facts hfc hkC (u_lays hts fw hk) hfi).1
  have hcf : m.cls = cf := by
    obtain ⟨_, _, c', _, _, _, -, -, hf', -, -, -, hown2, -⟩ := Cond.laysFinal_spec hlay
    have e1 : c' = cf := by have := hfi.symm.trans hf'; simp at this; exact this.1.symm
    rw [hdecl] at hown2
    rw [← e1]; exact Option.some.inj (hown.symm.trans hown2)
  have h6 := u_fits hfc hkC hkind (Or.inr hlay) hfi (fp k hk) hn1 hn2
  refine W.putFinK X.1 X.2.1 hown (hts _ hw) hfi hst hcf (X.2.2.2.2.2.2.2.1 hnm) (by rw [q2]; exact h6) q1 q3 (by rw [hsl]; exact k2_hasslot (q4 k hk)) rfl rfl (X.2.2.2.2.2.2.2.2.2.2.2 _ _ _ hi) fun H' e1 e2 e3 => ?_
  rw [hsl] at e1 ⊢
  exact h p l e R s m args below meth c H' _ ls Z X r1 r2 (hM.put e2 e3 hge ⟨_, hr, t_OB.to (V := updV (vp_V fs) k v) ⟨_, e1, q2, q3, t_set q4 hap hk v⟩ (fun j _ => vp_updV_set hl v j)⟩) (hS.put e2 e3 hge) hL hn hZ
theorem Ev.iast {a n : Nat} {f : Nat → Int32} {i x : Int32} (hi : pg_ins mi pc = some (.iastore, 1)) (ha : σ.2 a = some (.inl (0, n, f))) (hin : vp_in i n) (h : Ev Γ RC RS mi cells slots (pc + 1) L st (ex_put σ a (.inl (0, n, upd f i.toNatClampNeg x))) Q) : Ev Γ RC RS mi cells slots pc L (.int x :: .int i :: .ref a :: st) σ Q := by
  intro p l e R s m args below meth c H locs ls Z X r1 r2 hM hS hL hn hZ
  obtain ⟨hge, hat⟩ := hM.2.2 a _ ha
  refine W.iast X.1 X.2.1 hat ((X.2.2.2.2.2.2.2.2.2.2.1.1.2 0 _ rfl).1 n (fun j => .int (f j))) (fun q => by cases q) (by show ¬ (i < 0 ∨ (arrV _ _ _).slots.size ≤ _); rw [arrV_size]; exact hin) rfl rfl (X.2.2.2.2.2.2.2.2.2.2.2 _ _ _ hi) fun H1 e1 z oq => ?_
  refine h p l e R s m args below meth c H1 _ ls Z X r1 r2 (hM.put z oq hge ?_) (hS.put z oq hge) hL hn hZ
  show H1[a]? = some (vp_cell _ _)
  rw [e1]
  show some ((vp_cell _ _).setSlot _ _) = _
  rw [vp_cell_i, vp_cell_i, arrV_store]
  congr 2
  funext q
  by_cases hq : q = i.toNatClampNeg
  · subst hq
    simp [updV, upd]
  · simp [updV, upd, hq]
theorem Ev.bast {a n : Nat} {f : Nat → Int32} {i x : Int32} (hi : pg_ins mi pc = some (.bastore, 1)) (ha : σ.2 a = some (.inl (1, n, f))) (hin : vp_in i n) (h : Ev Γ RC RS mi cells slots (pc + 1) L st (ex_put σ a (.inl (1, n, upd f i.toNatClampNeg (x.toInt8.toInt32)))) Q) : Ev Γ RC RS mi cells slots pc L (.int x :: .int i :: .ref a :: st) σ Q := by
  intro p l e R s m args below meth c H locs ls Z X r1 r2 hM hS hL hn hZ
  obtain ⟨hge, hat⟩ := hM.2.2 a _ ha
  refine W.bast X.1 X.2.1 hat ((X.2.2.2.2.2.2.2.2.2.2.1.1.2 1 _ rfl).1 n (fun j => .int (f j))) (fun q => by cases q) (by show ¬ (i < 0 ∨ (arrV _ _ _).slots.size ≤ _); rw [arrV_size]; exact hin) rfl rfl (X.2.2.2.2.2.2.2.2.2.2.2 _ _ _ hi) fun H1 e1 z oq => ?_
  refine h p l e R s m args below meth c H1 _ ls Z X r1 r2 (hM.put z oq hge ?_) (hS.put z oq hge) hL hn hZ
  show H1[a]? = some (vp_cell _ _)
  rw [e1]
  show some ((vp_cell _ _).setSlot _ _) = _
  rw [vp_cell_i, vp_cell_i, arrV_store]
  congr 2
  funext q
  by_cases hq : q = i.toNatClampNeg
  · subst hq
    simp [updV, upd, narrow]
  · simp [updV, upd, hq]
theorem Ev.zast {a n : Nat} {f : Nat → Int32} {i x : Int32} (hi : pg_ins mi pc = some (.bastore, 1)) (ha : σ.2 a = some (.inl (2, n, f))) (hin : vp_in i n) (hx : narrow .boolean (.int x) = .int x) (h : Ev Γ RC RS mi cells slots (pc + 1) L st (ex_put σ a (.inl (2, n, upd f i.toNatClampNeg x))) Q) : Ev Γ RC RS mi cells slots pc L (.int x :: .int i :: .ref a :: st) σ Q := by
  intro p l e R s m args below meth c H locs ls Z X r1 r2 hM hS hL hn hZ
  obtain ⟨hge, hat⟩ := hM.2.2 a _ ha
  refine W.zast X.1 X.2.1 hat ((X.2.2.2.2.2.2.2.2.2.2.1.1.2 2 _ rfl).1 n (fun j => .int (f j))) (fun q => by cases q) (by show ¬ (i < 0 ∨ (arrV _ _ _).slots.size ≤ _); rw [arrV_size]; exact hin) rfl rfl (X.2.2.2.2.2.2.2.2.2.2.2 _ _ _ hi) fun H1 e1 z oq => ?_
  refine h p l e R s m args below meth c H1 _ ls Z X r1 r2 (hM.put z oq hge ?_) (hS.put z oq hge) hL hn hZ
  show H1[a]? = some (vp_cell _ _)
  rw [e1]
  show some ((vp_cell _ _).setSlot _ _) = _
  rw [hx, vp_cell_i, vp_cell_i, arrV_store]
  congr 2
  funext q
  by_cases hq : q = i.toNatClampNeg
  · subst hq
    simp [updV, upd]
  · simp [updV, upd, hq]
end
end
