/-! Rows of instructions that make cells, of reference arrays, statics and texts. -/
noncomputable section
section
variable {Γ : ex_G} {RC RS mi cells slots pc : Nat} {L : ex_L} {st : List Value} {σ : ex_S} {Q : Option Value → ex_S → Prop}
theorem ex_tys_at {Γ : ex_G} {t : Nat} {C : String} (ht : ex_tl[t]? = some (.object C)) : (ex_tys Γ)[t]? = some (gT Γ t, .object C) := by
  match t, ht with
  | 3, ht => cases ht; rfl
  | 4, ht => cases ht; rfl
  | 5, ht => cases ht; rfl
  | 6, ht => cases ht; rfl
theorem Ev.aast {a n t v ci : Nat} {f : Nat → Option Nat} {vs : List Value} {i : Int32} {r : vw_C} (hi : pg_ins mi pc = some (.aastore, 1)) (ha : σ.2 a = some (.inr (.inl (t, n, f)))) (hr : pg_cl[ci]? = some r) (ht : ex_tl[t]? = some (.object r.1)) (hv : σ.2 v = some (.inr (.inr (ci, vs)))) (hin : vp_in i n) (h : Ev Γ RC RS mi cells slots (pc + 1) L st (ex_put σ a (.inr (.inl (t, n, va_up f i.toNatClampNeg (some v))))) Q) : Ev Γ RC RS mi cells slots pc L (.ref v :: .int i :: .ref a :: st) σ Q := by
  intro p l e R s m args below meth c H locs ls Z X r1 r2 hM hS hL hn hZ
  obtain ⟨hge, hat⟩ := hM.2.2 a _ ha
  obtain ⟨-, r', hr', cellV, g1, g2, g3, -⟩ := hM.2.2 v _ hv
  have hK := X.2.2.2.2.2.2.2.2.2.2.1.1
  have hlt : i.toNatClampNeg < n := Nat.not_le.mp fun q => hin (Or.inr q)
  have h0 : ¬ i < 0 := fun q => hin (Or.inl q)
  have hcls := (hK.1 ci r hr).2
  obtain ⟨kA, comp, k1, k2, k3, -⟩ := (hK.2 t _ (ex_tys_at ht)).2
  have hcomp : comp = (gD Γ).1 ci := Option.some.inj (k3.symm.trans hcls.1)
  subst hcomp
  obtain ⟨kC, hkC, -⟩ := hcls.2
  refine W.aast X.1 X.2.1 hat (fun q h => by cases h) (fun h => by cases h) k1 k2 rfl hkC ⟨h0, by show _ < (arrV _ _ _).slots.size; rw [arrV_size]; exact hlt⟩ g1 (fun q h => by rw [g3] at h; cases h) (by rw [g2]; exact hkC) (by rw [g2]; exact va_assign hcls) rfl rfl (X.2.2.2.2.2.2.2.2.2.2.2 _ _ _ hi) fun H1 e1 z oq => ?_
  refine h p l e R s m args below meth c H1 _ ls Z X r1 r2 (hM.put z oq hge ?_) (hS.put z oq hge) hL hn hZ
  show H1[a]? = some (vp_cell _ _)
  rw [e1]
  show some ((vp_cell _ _).setSlot _ _) = _
  rw [vp_cell_q, vp_cell_q, arrV_store]
  congr 2
  funext q
  by_cases hq : q = i.toNatClampNeg
  · subst hq
    simp [updV, va_up, va_rf]
  · simp [updV, va_up, hq]
theorem Ev.newa {t N : Nat} {n : Int32} {at_ : ArrayType} {ty : FieldType} (hi : pg_ins mi pc = some (.newarray at_, 2)) (hat : newarray.typeOf at_ = ty) (ht : (ex_tys Γ)[t]? = some (gT Γ t, ty)) (hp : refKind ty = false) (hd : defaultValue ty = .int 0) (hg : Cond.arrayClass ty ∈ lw_g) (hn : ¬ n < 0) (hN : n.toNatClampNeg = N) (hb : N * componentBytes ty ≤ 536870912) (hc : cells + 1 ≤ RC) (hs : slots + N ≤ RS) (h : Ev Γ RC RS mi (cells + 1) (slots + N) (pc + 2) L (.ref σ.1 :: st) (ex_new σ (.inl (t, N, fun _ => 0))) Q) : Ev Γ RC RS mi cells slots pc L (.int n :: st) σ Q := by
  intro p l e R s m args below meth c H locs ls Z X r1 r2 hM hS hL hn' hZ
  subst hat
  have hK := X.2.2.2.2.2.2.2.2.2.2.1.1
  refine va_newaK X.1 X.2.1 (X.2.2.2.2.2.1 _ hg) rfl (X.2.2.2.2.2.2.2.2.2.2.2 _ _ _ hi) rfl hn hN hb (by rw [r1]; exact hc) (by rw [r2]; exact hs) hM.1 fun H1 cA e1 z1 o1 hAr hNm => ?_
  have hcA : cA = gT Γ t := by
    have h1 := (hK.2 t _ ht).2
    unfold va_RA at h1
    cases at_ <;> exact Option.some.inj (hNm.symm.trans h1)
  subst hcA
  have hz : H1.size = H.size + 1 := by rw [z1, hM.1]
  have ho : ∀ q : Nat, q < H.size → H1[q]? = H[q]? := fun q hq => o1 q (by rw [← hM.1]; exact hq)
  refine h p l e R s m args below meth c H1 locs ls Z X r1 r2 (hM.push hz ho ?_) (ex_S.push hS hz ho) hL hn' hZ
  show H1[H.size]? = some (vp_cell _ _)
  rw [hM.1, e1, hd]
  rfl
theorem Ev.newc {idx ci : Nat} {r : vw_C} {fs : List Value} (hi : pg_ins mi pc = some (.new idx, 3)) (hk : (pg_nws.getD (pg_oi mi) []).lookup idx = some ci) (hr : pg_cl[ci]? = some r) (hfs : ∀ j, j < r.2.2 → defaultValue (pg_fty ci j) = vp_V fs j) (hc : cells + 1 ≤ RC) (hs : slots + r.2.2 ≤ RS) (h : Ev Γ RC RS mi (cells + 1) (slots + r.2.2) (pc + 3) L (.ref σ.1 :: st) (ex_new σ (.inr (.inr (ci, fs)))) Q) : Ev Γ RC RS mi cells slots pc L st σ Q := by
  intro p l e R s m args below meth c H locs ls Z X r1 r2 hM hS hL hn hZ
  have hts := X.2.2.2.2.2.1
  have hK := X.2.2.2.2.2.2.2.2.2.2.1.1
  obtain ⟨r', hr', hw⟩ := pg_nw_ok _ _ (ex_lookup _ _ _ hk)
  have hrr : r' = r := Option.some.inj (hr'.symm.trans hr)
  subst hrr
  obtain ⟨fw, fp, fn, hinst, hini⟩ := pc_all ci r' hr
  have hKn := hK.1 ci _ hr
  refine W.newcK X.1 X.2.1 X.2.2.2.2.1 (hts _ hw) (hts _ hinst) (hts _ hini) rfl (X.2.2.2.2.2.2.2.2.2.2.2 _ _ _ hi) (by rw [r1]; exact hc) (by rw [r2]; exact hs) hKn.2.1 hM.1 fun H1 kC hkC e1 z1 o1 => ?_
  have hz : H1.size = H.size + 1 := by rw [z1, hM.1]
  have ho : ∀ q : Nat, q < H.size → H1[q]? = H[q]? := fun q hq => o1 q (by rw [← hM.1]; exact hq)
  refine h p l e R s m args below meth c H1 locs ls Z X r1 r2 (hM.push hz ho ?_) (ex_S.push hS hz ho) hL hn hZ
  exact ⟨_, hr, (u_born _ hts fw hKn hkC (by rw [hM.1]; exact e1) fp).to hfs⟩
theorem Ev.anew {idx ci t N : Nat} {n : Int32} {r : vw_C} (hi : pg_ins mi pc = some (.anewarray idx, 3)) (hk : (pg_nws.getD (pg_oi mi) []).lookup idx = some ci) (hr : pg_cl[ci]? = some r) (ht : ex_tl[t]? = some (.object r.1)) (hov : Cond.arrayOver (.object r.1) ∈ lw_tbl) (hn : ¬ n < 0) (hN : n.toNatClampNeg = N) (hb : N * 4 ≤ 536870912) (hc : cells + 1 ≤ RC) (hs : slots + N ≤ RS) (h : Ev Γ RC RS mi (cells + 1) (slots + N) (pc + 3) L (.ref σ.1 :: st) (ex_new σ (.inr (.inl (t, N, fun _ => none)))) Q) : Ev Γ RC RS mi cells slots pc L (.int n :: st) σ Q := by
  intro p l e R s m args below meth c H locs ls Z X r1 r2 hM hS hL hn' hZ
  subst hN
  have hts := X.2.2.2.2.2.1
  have hI := X.2.2.2.2.2.2.2.2.2.2.1
  have hK := hI.1
  obtain ⟨r', hr', hw⟩ := pg_nw_ok _ _ (ex_lookup _ _ _ hk)
  have hrr : r' = r := Option.some.inj (hr'.symm.trans hr)
  subst hrr
  refine W.anew X.1 X.2.1 X.2.2.2.2.1 (hts _ hw) (va_AO.use (hI.2.2.2.2.2.2.2 _ hov)) rfl (X.2.2.2.2.2.2.2.2.2.2.2 _ _ _ hi) rfl hn hb (by rw [r1]; exact hc) (by rw [r2]; exact hs) fun cA kA comp f1 f2 f3 f4 => ?_
  obtain ⟨-, -, -, -, -, h4⟩ := (hK.2 t _ (ex_tys_at ht)).2
  have hcA : cA = gT Γ t := Option.some.inj (f1.symm.trans h4)
  subst hcA
  generalize hH1 : H.push ({ cls := gT Γ t, slots := Array.replicate n.toNatClampNeg .null, vm := .none } : Cell) = H1
  have hz : H1.size = H.size + 1 := by rw [← hH1, Array.size_push]
  have e1 : H1[H.size]? = some (arrV (gT Γ t) n.toNatClampNeg (fun _ => .null)) := by rw [← hH1, Array.getElem?_push_size, ← arrV_new]
  have ho : ∀ q : Nat, q < H.size → H1[q]? = H[q]? := fun q hq => by rw [← hH1, Array.getElem?_push, if_neg (Nat.ne_of_lt hq)]
  rw [hM.1]
  refine h p l e R s m args below meth c H1 locs ls Z X r1 r2 (hM.push hz ho ?_) (ex_S.push hS hz ho) hL hn' hZ
  show H1[H.size]? = some (vp_cell _ _)
  rw [e1]
  rfl
theorem Ev.gets {idx g : Nat} (hi : pg_ins mi pc = some (.getstatic idx, 3)) (hk : (pg_gss.getD (pg_oi mi) []).lookup idx = some g) (h : Ev Γ RC RS mi cells slots (pc + 3) L (gV Γ g :: st) σ Q) : Ev Γ RC RS mi cells slots pc L st σ Q := by
  intro p l e R s m args below meth c H locs ls Z X r1 r2 hM hS hL hn hZ
  obtain ⟨r, hr, hw⟩ := pg_gs_ok _ _ (ex_lookup _ _ _ hk)
  exact va_gets X.1 X.2.1 (X.2.2.2.2.2.2.2.2.2.2.1.2.2.2.1 g r hr) hS X.2.2.2.2.1 (X.2.2.2.2.2.1 _ hw) (fun _ q => q) (X.2.2.2.2.2.2.2.2.2.2.2 _ _ _ hi) (h p l e R s m args below meth c H locs ls Z X r1 r2 hM hS hL hn hZ)
theorem Ev.getsFR (hi : pg_ins mi pc = some (.getstatic 49, 3)) (ho : pg_on (pg_oi mi) = "SchoolDoors$School") (h : Ev Γ RC RS mi cells slots (pc + 3) L (gV Γ 0 :: st) σ Q) : Ev Γ RC RS mi cells slots pc L st σ Q := by
  intro p l e R s m args below meth c H locs ls Z X r1 r2 hM hS hL hn hZ
  have hI := X.2.2.2.2.2.2.2.2.2.2.1
  have hown := X.2.2.2.2.1
  rw [ho] at hown
  exact va_getsN X.1 X.2.1 (hI.2.2.2.1 0 _ rfl) hS hown (va_Nw.use rfl (hI.2.2.2.2.2.2.1 _ _ _ _ _ _ ps_fr)) (fun _ q => q) (X.2.2.2.2.2.2.2.2.2.2.2 _ _ _ hi) (h p l e R s m args below meth c H locs ls Z X r1 r2 hM hS hL hn hZ)
theorem Ev.ldcS {k j : Nat} {tx : String} (hi : pg_ins mi pc = some (.ldc k, 2)) (ho : pg_on (pg_oi mi) = "SchoolDoors$Reader") (hj : ex_tx[j]? = some (k, tx)) (h : Ev Γ RC RS mi cells slots (pc + 2) L (.ref (gS Γ j).1 :: st) σ Q) : Ev Γ RC RS mi cells slots pc L st σ Q := by
  intro p l e R s m args below meth c H locs ls Z X r1 r2 hM hS hL hn hZ
  have hI := X.2.2.2.2.2.2.2.2.2.2.1
  have hown := X.2.2.2.2.1
  rw [ho] at hown
  exact va_ldcS X.1 X.2.1 hown (hI.2.2.2.2.1 j _ hj).2.2.2 (X.2.2.2.2.2.2.2.2.2.2.2 _ _ _ hi) (h p l e R s m args below meth c H locs ls Z X r1 r2 hM hS hL hn hZ)
theorem Ev.getSv {j : Nat} {q : Nat × String} (hi : pg_ins mi pc = some (.getfield 9, 3)) (ho : pg_on (pg_oi mi) = "java/lang/String") (hj : ex_tx[j]? = some q) (h : Ev Γ RC RS mi cells slots (pc + 3) L (.ref (gS Γ j).2 :: st) σ Q) : Ev Γ RC RS mi cells slots pc L (.ref (gS Γ j).1 :: st) σ Q := by
  intro p l e R s m args below meth c H locs ls Z X r1 r2 hM hS hL hn hZ
  have hI := X.2.2.2.2.2.2.2.2.2.2.1
  have hown := X.2.2.2.2.1
  rw [ho] at hown
  obtain ⟨cf, k, i, f, cell, h1, h2, h3, h4, h5, h6⟩ := (hI.2.2.2.2.1 j _ hj).2.2.1
  exact W.getf X.1 X.2.1 hown (X.2.2.2.2.2.1 _ ps_value) h1 h2 (by rw [hS.2.1 _ (Array.getElem?_eq_some_iff.mp h3).1 h6]; exact h3) h4 h5 rfl rfl (X.2.2.2.2.2.2.2.2.2.2.2 _ _ _ hi) (h p l e R s m args below meth c H locs ls Z X r1 r2 hM hS hL hn hZ)
theorem Ev.getSc {j : Nat} {q : Nat × String} (hi : pg_ins mi pc = some (.getfield 15, 3)) (ho : pg_on (pg_oi mi) = "java/lang/String") (hj : ex_tx[j]? = some q) (h : Ev Γ RC RS mi cells slots (pc + 3) L (.int 0 :: st) σ Q) : Ev Γ RC RS mi cells slots pc L (.ref (gS Γ j).1 :: st) σ Q := by
  intro p l e R s m args below meth c H locs ls Z X r1 r2 hM hS hL hn hZ
  have hI := X.2.2.2.2.2.2.2.2.2.2.1
  have hown := X.2.2.2.2.1
  rw [ho] at hown
  obtain ⟨cf, k, i, f, cell, h1, h2, h3, h4, h5, h6⟩ := (hI.2.2.2.2.1 j _ hj).2.1
  exact W.getf X.1 X.2.1 hown (X.2.2.2.2.2.1 _ ps_coder) h1 h2 (by rw [hS.2.1 _ (Array.getElem?_eq_some_iff.mp h3).1 h6]; exact h3) h4 h5 rfl rfl (X.2.2.2.2.2.2.2.2.2.2.2 _ _ _ hi) (h p l e R s m args below meth c H locs ls Z X r1 r2 hM hS hL hn hZ)
end
end
