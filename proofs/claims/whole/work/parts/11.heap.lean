/-! Rows of instructions that read or write cells. -/
noncomputable section
def ex_put (σ : ex_S) (a : Nat) (e : ex_E) : ex_S := (σ.1, fun q => if q = a then some e else σ.2 q)
def ex_new (σ : ex_S) (e : ex_E) : ex_S := (σ.1 + 1, fun q => if q = σ.1 then some e else σ.2 q)
theorem ex_put_eq {σ : ex_S} {a : Nat} {e : ex_E} : (ex_put σ a e).2 a = some e := by simp [ex_put]
theorem ex_put_ne {σ : ex_S} {a q : Nat} {e : ex_E} (h : q ≠ a) : (ex_put σ a e).2 q = σ.2 q := by simp [ex_put, h]
theorem ex_put_sz {σ : ex_S} {a : Nat} {e : ex_E} : (ex_put σ a e).1 = σ.1 := rfl
theorem ex_new_eq {σ : ex_S} {e : ex_E} : (ex_new σ e).2 σ.1 = some e := by simp [ex_new]
theorem ex_new_ne {σ : ex_S} {q : Nat} {e : ex_E} (h : q ≠ σ.1) : (ex_new σ e).2 q = σ.2 q := by simp [ex_new, h]
theorem ex_new_sz {σ : ex_S} {e : ex_E} : (ex_new σ e).1 = σ.1 + 1 := rfl
theorem ex_M.put {Γ : ex_G} {σ : ex_S} {H H1 : Heap} {a : Nat} {e : ex_E} (h : ex_M Γ σ H) (z : H1.size = H.size) (oq : ∀ q : Nat, q ≠ a → H1[q]? = H[q]?) (ha : gN Γ ≤ a) (he : va_at (gD Γ) pg_cl (a, ex_c Γ e) H1) : ex_M Γ (ex_put σ a e) H1 := by
  refine ⟨by rw [z]; exact h.1, h.2.1, fun q x hx => ?_⟩
  by_cases hq : q = a
  · subst hq
    rw [ex_put_eq] at hx
    cases hx
    exact ⟨ha, he⟩
  · rw [ex_put_ne hq] at hx
    exact ⟨(h.2.2 q x hx).1, (h.2.2 q x hx).2.kept (oq q hq)⟩
theorem ex_M.push {Γ : ex_G} {σ : ex_S} {H H1 : Heap} {e : ex_E} (h : ex_M Γ σ H) (z : H1.size = H.size + 1) (oq : ∀ q : Nat, q < H.size → H1[q]? = H[q]?) (he : va_at (gD Γ) pg_cl (H.size, ex_c Γ e) H1) : ex_M Γ (ex_new σ e) H1 := by
  refine ⟨by rw [z, h.1]; rfl, Nat.le_succ_of_le h.2.1, fun q x hx => ?_⟩
  by_cases hq : q = σ.1
  · subst hq
    rw [ex_new_eq] at hx
    cases hx
    exact ⟨h.2.1, by rw [← h.1]; exact he⟩
  · rw [ex_new_ne hq] at hx
    exact ⟨(h.2.2 q x hx).1, (h.2.2 q x hx).2.kept (oq q (h.2.2 q x hx).2.lt)⟩
theorem ex_S.push {A : Nat → Prop} {H0 H H1 : Heap} {locs : List Loc} (hS : va_S A H0 H locs) (z : H1.size = H.size + 1) (oq : ∀ q : Nat, q < H.size → H1[q]? = H[q]?) : va_S A H0 H1 locs :=
  ⟨Nat.le_trans hS.1 (by omega), fun x h1 h2 => (oq x (Nat.lt_of_lt_of_le h1 hS.1)).trans (hS.2.1 x h1 h2), hS.2.2⟩
theorem ex_one {Γ : ex_G} {σ : ex_S} {H : Heap} {a : Nat} {e : ex_E} (hM : ex_M Γ σ H) (ha : σ.2 a = some e) : va_P (gD Γ) pg_cl [(a, ex_c Γ e)] H := by
  intro k q hq
  match k, hq with
  | 0, hq => cases hq; exact (hM.2.2 a e ha).2
  | k + 1, hq => simp at hq
/-- a field's type, and whether it's final -/
def pg_fty (ci k : Nat) : FieldType := (pg_ft.getD ci (fun _ => .int)) k
def pg_fin (ci k : Nat) : Bool := match pg_cl[ci]? with
  | some r => (r.2.1 k).2.2.2
  | none => true
section
variable {Γ : ex_G} {RC RS mi cells slots pc : Nat} {L : ex_L} {st : List Value} {σ : ex_S} {Q : Option Value → ex_S → Prop}
theorem Ev.getf {idx ci k a : Nat} {fs : List Value} {v : Value} (hi : pg_ins mi pc = some (.getfield idx, 3)) (hf : (pg_fls.getD (pg_oi mi) []).lookup idx = some (ci, k)) (ha : σ.2 a = some (.inr (.inr (ci, fs)))) (hv : fs[k]? = some v) (h : Ev Γ RC RS mi cells slots (pc + 3) L (v :: st) σ Q) : Ev Γ RC RS mi cells slots pc L (.ref a :: st) σ Q := by
  intro p l e R s m args below meth c H locs ls Z X r1 r2 hM hS hL hn hZ
  obtain ⟨r, hr, hk, hw⟩ := pg_fl_ok _ _ (ex_lookup _ _ _ hf)
  exact va_get (D := gD Γ) (C := r.1) (T := r.2.1) (N := r.2.2) X.1 X.2.1 X.2.2.2.2.2.1 (pc_all ci r hr).1 X.2.2.2.2.1 X.2.2.2.2.2.2.2.2.2.2.1.1 (ex_one hM ha) 0 rfl hr k hk (X.2.2.2.2.2.1 _ hw) (fun _ q => q) hv (X.2.2.2.2.2.2.2.2.2.2.2 _ _ _ hi) (h p l e R s m args below meth c H locs ls Z X r1 r2 hM hS hL hn hZ)
theorem Ev.iald {a n : Nat} {f : Nat → Int32} {i : Int32} (hi : pg_ins mi pc = some (.iaload, 1)) (ha : σ.2 a = some (.inl (0, n, f))) (hin : vp_in i n) (h : Ev Γ RC RS mi cells slots (pc + 1) L (.int (f i.toNatClampNeg) :: st) σ Q) : Ev Γ RC RS mi cells slots pc L (.int i :: .ref a :: st) σ Q := by
  intro p l e R s m args below meth c H locs ls Z X r1 r2 hM hS hL hn hZ
  exact va_iald X.1 X.2.1 X.2.2.2.2.2.2.2.2.2.2.1.1 (ex_one hM ha) 0 0 rfl rfl hin (X.2.2.2.2.2.2.2.2.2.2.2 _ _ _ hi) (h p l e R s m args below meth c H locs ls Z X r1 r2 hM hS hL hn hZ)
theorem Ev.bald {a n : Nat} {f : Nat → Int32} {i : Int32} (hi : pg_ins mi pc = some (.baload, 1)) (ha : σ.2 a = some (.inl (1, n, f))) (hin : vp_in i n) (h : Ev Γ RC RS mi cells slots (pc + 1) L (.int (f i.toNatClampNeg) :: st) σ Q) : Ev Γ RC RS mi cells slots pc L (.int i :: .ref a :: st) σ Q := by
  intro p l e R s m args below meth c H locs ls Z X r1 r2 hM hS hL hn hZ
  exact va_bald X.1 X.2.1 X.2.2.2.2.2.2.2.2.2.2.1.1 (ex_one hM ha) 0 1 rfl rfl hin (X.2.2.2.2.2.2.2.2.2.2.2 _ _ _ hi) (h p l e R s m args below meth c H locs ls Z X r1 r2 hM hS hL hn hZ)
theorem Ev.zald {a n : Nat} {f : Nat → Int32} {i : Int32} (hi : pg_ins mi pc = some (.baload, 1)) (ha : σ.2 a = some (.inl (2, n, f))) (hin : vp_in i n) (h : Ev Γ RC RS mi cells slots (pc + 1) L (.int (f i.toNatClampNeg) :: st) σ Q) : Ev Γ RC RS mi cells slots pc L (.int i :: .ref a :: st) σ Q := by
  intro p l e R s m args below meth c H locs ls Z X r1 r2 hM hS hL hn hZ
  exact va_zald X.1 X.2.1 X.2.2.2.2.2.2.2.2.2.2.1.1 (ex_one hM ha) 0 2 rfl rfl hin (X.2.2.2.2.2.2.2.2.2.2.2 _ _ _ hi) (h p l e R s m args below meth c H locs ls Z X r1 r2 hM hS hL hn hZ)
theorem Ev.aald {a n t : Nat} {f : Nat → Option Nat} {i : Int32} {C : String} (hi : pg_ins mi pc = some (.aaload, 1)) (ha : σ.2 a = some (.inr (.inl (t, n, f)))) (ht : ex_tl[t]? = some (.object C)) (hin : vp_in i n) (h : Ev Γ RC RS mi cells slots (pc + 1) L (va_rf (f i.toNatClampNeg) :: st) σ Q) : Ev Γ RC RS mi cells slots pc L (.int i :: .ref a :: st) σ Q := by
  intro p l e R s m args below meth c H locs ls Z X r1 r2 hM hS hL hn hZ
  have ht2 : (ex_tys Γ)[t]? = some (gT Γ t, .object C) := by
    match t, ht with
    | 3, ht => cases ht; rfl
    | 4, ht => cases ht; rfl
    | 5, ht => cases ht; rfl
    | 6, ht => cases ht; rfl
  exact va_aldq X.1 X.2.1 X.2.2.2.2.2.2.2.2.2.2.1.1 (ex_one hM ha) 0 t rfl ht2 hin (X.2.2.2.2.2.2.2.2.2.2.2 _ _ _ hi) (h p l e R s m args below meth c H locs ls Z X r1 r2 hM hS hL hn hZ)
theorem Ev.ialdS {a n : Nat} {f : Nat → Int32} {i : Int32} (hi : pg_ins mi pc = some (.iaload, 1)) (ha : (a, 0, n, f) ∈ gA Γ) (hin : vp_in i n) (h : Ev Γ RC RS mi cells slots (pc + 1) L (.int (f i.toNatClampNeg) :: st) σ Q) : Ev Γ RC RS mi cells slots pc L (.int i :: .ref a :: st) σ Q := by
  intro p l e R s m args below meth c H locs ls Z X r1 r2 hM hS hL hn hZ
  obtain ⟨ty, e1, e2⟩ := X.2.2.2.2.2.2.2.2.2.2.1.2.2.1 a 0 n f ha
  cases e1
  exact va_ti X.1 X.2.1 e2 hS hin rfl (X.2.2.2.2.2.2.2.2.2.2.2 _ _ _ hi) (h p l e R s m args below meth c H locs ls Z X r1 r2 hM hS hL hn hZ)
theorem Ev.baldS {a n : Nat} {f : Nat → Int32} {i : Int32} (hi : pg_ins mi pc = some (.baload, 1)) (ha : (a, 1, n, f) ∈ gA Γ) (hin : vp_in i n) (h : Ev Γ RC RS mi cells slots (pc + 1) L (.int (f i.toNatClampNeg) :: st) σ Q) : Ev Γ RC RS mi cells slots pc L (.int i :: .ref a :: st) σ Q := by
  intro p l e R s m args below meth c H locs ls Z X r1 r2 hM hS hL hn hZ
  obtain ⟨ty, e1, e2⟩ := X.2.2.2.2.2.2.2.2.2.2.1.2.2.1 a 1 n f ha
  cases e1
  exact va_tb X.1 X.2.1 e2 hS hin rfl (X.2.2.2.2.2.2.2.2.2.2.2 _ _ _ hi) (h p l e R s m args below meth c H locs ls Z X r1 r2 hM hS hL hn hZ)
theorem Ev.alenS {a n t : Nat} {f : Nat → Int32} {v : Int32} (hi : pg_ins mi pc = some (.arraylength, 1)) (ha : (a, t, n, f) ∈ gA Γ) (hv : Int32.ofNat n = v) (h : Ev Γ RC RS mi cells slots (pc + 1) L (.int v :: st) σ Q) : Ev Γ RC RS mi cells slots pc L (.ref a :: st) σ Q := by
  intro p l e R s m args below meth c H locs ls Z X r1 r2 hM hS hL hn hZ
  obtain ⟨ty, e1, e2⟩ := X.2.2.2.2.2.2.2.2.2.2.1.2.2.1 a t n f ha
  exact va_tlen X.1 X.2.1 e2 hS hv (X.2.2.2.2.2.2.2.2.2.2.2 _ _ _ hi) (h p l e R s m args below meth c H locs ls Z X r1 r2 hM hS hL hn hZ)
theorem Ev.alen {a n t : Nat} {f : Nat → Int32} {v : Int32} (hi : pg_ins mi pc = some (.arraylength, 1)) (ha : σ.2 a = some (.inl (t, n, f))) (ht : t < 3) (hv : Int32.ofNat n = v) (h : Ev Γ RC RS mi cells slots (pc + 1) L (.int v :: st) σ Q) : Ev Γ RC RS mi cells slots pc L (.ref a :: st) σ Q := by
  intro p l e R s m args below meth c H locs ls Z X r1 r2 hM hS hL hn hZ
  have ht2 : ∃ ty, (ex_tys Γ)[t]? = some (gT Γ t, ty) := by
    match t, ht with
    | 0, _ => exact ⟨_, rfl⟩
    | 1, _ => exact ⟨_, rfl⟩
    | 2, _ => exact ⟨_, rfl⟩
  obtain ⟨ty, ht2⟩ := ht2
  exact va_alen X.1 X.2.1 X.2.2.2.2.2.2.2.2.2.2.1.1 (ex_one hM ha) 0 t rfl ht2 hv (X.2.2.2.2.2.2.2.2.2.2.2 _ _ _ hi) (h p l e R s m args below meth c H locs ls Z X r1 r2 hM hS hL hn hZ)
end
end
