/-! What the constructors make. -/
noncomputable section
def RetN (Γ : ex_G) (z mc ms b : Nat) (σ : ex_S) (k : Nat) (R : ex_S → Prop) : Prop := Ret Γ z mc ms [.ref b] σ (fun r τ => r = none ∧ τ.1 = b + k ∧ (∀ q, q < b → τ.2 q = σ.2 q) ∧ R τ)
def L0 : Les := fun f => if f = 4 then -1 else 0
def S0 : Sch := (0, 0, fun _ _ => 0)
def P0 : Pln := (0, fun _ => L0)
def T0 : Tol := (0, 0, -1, 0, 0, fun _ => 0, fun _ => S0, fun _ => P0)
theorem isL.keep {σ τ : ex_S} {c : Nat} {C : Les} (h : isL σ c C) (hk : ∀ q, c ≤ q → q < c + 1 → τ.2 q = σ.2 q) : isL τ c C := (hk c (Nat.le_refl _) (by omega)).trans h
theorem isS.keep {σ τ : ex_S} {a : Nat} {S : Sch} (h : isS σ a S) (hk : ∀ q, a ≤ q → q < a + 11 → τ.2 q = σ.2 q) : isS τ a S := by
  obtain ⟨h0, h1, h2, h3, h4, h5, h6, h7, h8, h9, h10⟩ := h
  exact ⟨(hk _ (by omega) (by omega)).trans h0, (hk _ (by omega) (by omega)).trans h1, (hk _ (by omega) (by omega)).trans h2, (hk _ (by omega) (by omega)).trans h3, (hk _ (by omega) (by omega)).trans h4, (hk _ (by omega) (by omega)).trans h5, (hk _ (by omega) (by omega)).trans h6, (hk _ (by omega) (by omega)).trans h7, (hk _ (by omega) (by omega)).trans h8, (hk _ (by omega) (by omega)).trans h9, (hk _ (by omega) (by omega)).trans h10⟩
theorem isP.keep {σ τ : ex_S} {p : Nat} {P : Pln} (h : isP σ p P) (hk : ∀ q, p ≤ q → q < p + 8 → τ.2 q = σ.2 q) : isP τ p P := by
  obtain ⟨h0, ⟨f, h1, h2⟩, h3⟩ := h
  exact ⟨(hk _ (by omega) (by omega)).trans h0, ⟨f, (hk _ (by omega) (by omega)).trans h1, h2⟩, fun k hk' => (h3 k hk').keep (fun q h1 h2 => hk q (by omega) (by omega))⟩
theorem isT.keep {σ τ : ex_S} {q0 : Nat} {T : Tol} (h : isT σ q0 T) (hk : ∀ q, q0 ≤ q → q < q0 + 61 → τ.2 q = σ.2 q) : isT τ q0 T := by
  obtain ⟨h0, h1, ⟨f, h2, h3⟩, ⟨g, h4, h5⟩, h6, h7⟩ := h
  exact ⟨(hk _ (by omega) (by omega)).trans h0, (hk _ (by omega) (by omega)).trans h1, ⟨f, (hk _ (by omega) (by omega)).trans h2, h3⟩, ⟨g, (hk _ (by omega) (by omega)).trans h4, h5⟩, fun k hk' => (h6 k hk').keep (fun q h1 h2 => hk q (by omega) (by omega)), fun k hk' => (h7 k hk').keep (fun q h1 h2 => hk q (by omega) (by omega))⟩
section
variable {Γ : ex_G} {RC RS mi cells slots pc b : Nat} {L : ex_L} {st : List Value} {σ : ex_S} {Q : Option Value → ex_S → Prop}
theorem Ev.newaE {t N : Nat} {n : Int32} {at_ : ArrayType} {ty : FieldType} (hz : σ.1 = b) (hi : pg_ins mi pc = some (.newarray at_, 2)) (hat : newarray.typeOf at_ = ty) (ht : (ex_tys Γ)[t]? = some (gT Γ t, ty)) (hp : refKind ty = false) (hd : defaultValue ty = .int 0) (hg : Cond.arrayClass ty ∈ lw_g) (hn : ¬ n < 0) (hN : n.toNatClampNeg = N) (hb : N * componentBytes ty ≤ 536870912) (hc : cells + 1 ≤ RC) (hs : slots + N ≤ RS) (h : ∀ τ, τ.1 = b + 1 → (∀ q, q < b → τ.2 q = σ.2 q) → τ.2 b = some (.inl (t, N, fun _ => 0)) → Ev Γ RC RS mi (cells + 1) (slots + N) (pc + 2) L (.ref b :: st) τ Q) : Ev Γ RC RS mi cells slots pc L (.int n :: st) σ Q := by
  subst hz
  exact Ev.newa hi hat ht hp hd hg hn hN hb hc hs (h _ rfl (fun q hq => ex_new_ne (by omega)) ex_new_eq)
theorem Ev.newcE {idx ci nf : Nat} {r : vw_C} {fs : List Value} (hz : σ.1 = b) (hi : pg_ins mi pc = some (.new idx, 3)) (hk : (pg_nws.getD (pg_oi mi) []).lookup idx = some ci) (hr : pg_cl[ci]? = some r) (hnf : r.2.2 = nf) (hfs : ∀ j, j < nf → defaultValue (pg_fty ci j) = vp_V fs j) (hc : cells + 1 ≤ RC) (hs : slots + nf ≤ RS) (h : ∀ τ, τ.1 = b + 1 → (∀ q, q < b → τ.2 q = σ.2 q) → τ.2 b = some (.inr (.inr (ci, fs))) → Ev Γ RC RS mi (cells + 1) (slots + nf) (pc + 3) L (.ref b :: st) τ Q) : Ev Γ RC RS mi cells slots pc L st σ Q := by
  subst hz
  subst hnf
  exact Ev.newc hi hk hr hfs hc hs (h _ rfl (fun q hq => ex_new_ne (by omega)) ex_new_eq)
theorem Ev.anewE {idx ci t N : Nat} {n : Int32} {r : vw_C} (hz : σ.1 = b) (hi : pg_ins mi pc = some (.anewarray idx, 3)) (hk : (pg_nws.getD (pg_oi mi) []).lookup idx = some ci) (hr : pg_cl[ci]? = some r) (ht : ex_tl[t]? = some (.object r.1)) (hov : Cond.arrayOver (.object r.1) ∈ lw_tbl) (hn : ¬ n < 0) (hN : n.toNatClampNeg = N) (hb : N * 4 ≤ 536870912) (hc : cells + 1 ≤ RC) (hs : slots + N ≤ RS) (h : ∀ τ, τ.1 = b + 1 → (∀ q, q < b → τ.2 q = σ.2 q) → τ.2 b = some (.inr (.inl (t, N, fun _ => none))) → Ev Γ RC RS mi (cells + 1) (slots + N) (pc + 3) L (.ref b :: st) τ Q) : Ev Γ RC RS mi cells slots pc L (.int n :: st) σ Q := by
  subst hz
  exact Ev.anew hi hk hr ht hov hn hN hb hc hs (h _ rfl (fun q hq => ex_new_ne (by omega)) ex_new_eq)
theorem Ev.putFE {idx ci k a : Nat} {fs : List Value} {v : Value} (hi : pg_ins mi pc = some (.putfield idx, 3)) (hf : (pg_fls.getD (pg_oi mi) []).lookup idx = some (ci, k)) (ha : σ.2 a = some (.inr (.inr (ci, fs)))) (hfin : pg_fin ci k = true) (hnm : (pg_y mi).name = "<init>") (hdc : (pg_cl[ci]?.map fun r => (r.2.1 k).1) = some (pg_on (pg_oi mi))) (hn1 : narrow (pg_fty ci k) v = v) (hn2 : fits (pg_fty ci k) v = true) (hl : k < fs.length) (h : ∀ τ, frm σ τ a (a + 1) → τ.2 a = some (.inr (.inr (ci, fs.set k v))) → Ev Γ RC RS mi cells slots (pc + 3) L st τ Q) : Ev Γ RC RS mi cells slots pc L (v :: .ref a :: st) σ Q :=
  Ev.putF hi hf ha hfin hnm hdc hn1 hn2 hl (h _ (frm.rf.put (Nat.le_refl _) (Nat.lt_succ_self _)) ex_put_eq)
theorem Ev.aastE {a n t v ci k : Nat} {f : Nat → Option Nat} {vs : List Value} {i : Int32} {r : vw_C} (hi : pg_ins mi pc = some (.aastore, 1)) (ha : σ.2 a = some (.inr (.inl (t, n, f)))) (hr : pg_cl[ci]? = some r) (ht : ex_tl[t]? = some (.object r.1)) (hv : σ.2 v = some (.inr (.inr (ci, vs)))) (hk : i = nI k) (hn : k < n ∧ n < 2 ^ 31) (h : ∀ τ, frm σ τ a (a + 1) → τ.2 a = some (.inr (.inl (t, n, va_up f k (some v)))) → Ev Γ RC RS mi cells slots (pc + 1) L st τ Q) : Ev Γ RC RS mi cells slots pc L (.ref v :: .int i :: .ref a :: st) σ Q := by
  obtain ⟨h1, h2⟩ := ex_inN hk hn
  exact Ev.aast hi ha hr ht hv h1 (by rw [h2]; exact h _ (frm.rf.put (Nat.le_refl _) (Nat.lt_succ_self _)) ex_put_eq)
theorem Ev.mkI {idx z k mc ms : Nat} {R : ex_S → Prop} (hin : pg_ins mi pc = some (.invokespecial idx, 3)) (hk : (pg_lks.getD (pg_oi mi) []).lookup idx = some (2, z)) (hrm : ex_rm mi z = true) (hna : 0 = pg_na z) (hc : cells + mc ≤ RC ∧ slots + ms ≤ RS) (hR : RetN Γ z mc ms b σ k R) (h : ∀ τ, τ.1 = b + k → (∀ q, q < b → τ.2 q = σ.2 q) → R τ → Ev Γ RC RS mi (cells + mc) (slots + ms) (pc + 3) L st τ Q) (hw : (st.map fun v => v.category).sum ≤ 8 := by exact Nat.le_of_ble_eq_true rfl) : Ev Γ RC RS mi cells slots pc L (.ref b :: st) σ Q :=
  Ev.callI (as := []) (st := st) hin hk rfl hna hrm hw hc hR (fun r s1 q => by obtain ⟨rfl, a1, a2, a3⟩ := q; exact h _ a1 a2 a3)
theorem Ev.mkIN {idx z k mc ms : Nat} {R : ex_S → Prop} (hin : pg_ins mi pc = some (.invokespecial idx, 3)) (hk : (pg_lks.getD (pg_oi mi) []).lookup idx = some (5, z)) (hrm : ex_rm mi z = true) (hna : 0 = pg_na z) (hc : cells + mc ≤ RC ∧ slots + ms ≤ RS) (hR : RetN Γ z mc ms b σ k R) (h : ∀ τ, τ.1 = b + k → (∀ q, q < b → τ.2 q = σ.2 q) → R τ → Ev Γ RC RS mi (cells + mc) (slots + ms) (pc + 3) L st τ Q) (hw : (st.map fun v => v.category).sum ≤ 8 := by exact Nat.le_of_ble_eq_true rfl) : Ev Γ RC RS mi cells slots pc L (.ref b :: st) σ Q :=
  Ev.callIN (as := []) (st := st) hin hk rfl hna hrm hw hc hR (fun r s1 q => by obtain ⟨rfl, a1, a2, a3⟩ := q; exact h _ a1 a2 a3)
end
section
variable {Γ : ex_G} {σ : ex_S} {b : Nat}
theorem Lesson_init_ok (hz : σ.1 = b + 1) (c0 : σ.2 b = some (.inr (.inr (4, [.int 0, .int 0, .int 0, .int 0, .int 0, .int 0])))) : RetN Γ m_Lesson_init 0 0 b σ 1 (fun τ => isL τ b L0) := by
  unfold RetN
  generalize hQ : (fun (r : Option Value) (τ : ex_S) => r = none ∧ τ.1 = b + 1 ∧ (∀ q, q < b → τ.2 q = σ.2 q) ∧ (fun τ : ex_S => isL τ b L0) τ) = Q
  refine Ret.start pm_113 rfl ?_
  have kp : ∀ q, q < b → σ.2 q = σ.2 q := fun _ _ => rfl
  refine Ev.aload_n rfl rfl ?_
  refine Ev.objInit rfl rfl rfl (Nat.le_of_ble_eq_true rfl) ?_
  refine Ev.aload_n rfl rfl ?_
  refine Ev.iconst (v := 0) rfl (by decide) ?_
  refine Ev.putE rfl rfl c0 rfl rfl rfl (Nat.le_of_ble_eq_true rfl) (fun τ1 f1 q1 => ?_)
  replace hz : τ1.1 = b + 1 := f1.1.trans hz
  replace kp : ∀ q, q < b → τ1.2 q = σ.2 q := fun q h => (f1.2 q (by omega)).trans (kp q h)
  replace c0 : τ1.2 b = some (.inr (.inr (4, [.int 0, .int 0, .int 0, .int 0, .int 0, .int 0]))) := q1
  clear f1 q1
  refine Ev.aload_n rfl rfl ?_
  refine Ev.iconst (v := 0) rfl (by decide) ?_
  refine Ev.putE rfl rfl c0 rfl rfl rfl (Nat.le_of_ble_eq_true rfl) (fun τ2 f1 q1 => ?_)
  replace hz : τ2.1 = b + 1 := f1.1.trans hz
  replace kp : ∀ q, q < b → τ2.2 q = σ.2 q := fun q h => (f1.2 q (by omega)).trans (kp q h)
  replace c0 : τ2.2 b = some (.inr (.inr (4, [.int 0, .int 0, .int 0, .int 0, .int 0, .int 0]))) := q1
  clear f1 q1
  refine Ev.aload_n rfl rfl ?_
  refine Ev.iconst (v := 0) rfl (by decide) ?_
  refine Ev.putE rfl rfl c0 rfl rfl rfl (Nat.le_of_ble_eq_true rfl) (fun τ3 f1 q1 => ?_)
  replace hz : τ3.1 = b + 1 := f1.1.trans hz
  replace kp : ∀ q, q < b → τ3.2 q = σ.2 q := fun q h => (f1.2 q (by omega)).trans (kp q h)
  replace c0 : τ3.2 b = some (.inr (.inr (4, [.int 0, .int 0, .int 0, .int 0, .int 0, .int 0]))) := q1
  clear f1 q1
  refine Ev.aload_n rfl rfl ?_
  refine Ev.iconst (v := 0) rfl (by decide) ?_
  refine Ev.putE rfl rfl c0 rfl rfl rfl (Nat.le_of_ble_eq_true rfl) (fun τ4 f1 q1 => ?_)
  replace hz : τ4.1 = b + 1 := f1.1.trans hz
  replace kp : ∀ q, q < b → τ4.2 q = σ.2 q := fun q h => (f1.2 q (by omega)).trans (kp q h)
  replace c0 : τ4.2 b = some (.inr (.inr (4, [.int 0, .int 0, .int 0, .int 0, .int 0, .int 0]))) := q1
  clear f1 q1
  refine Ev.aload_n rfl rfl ?_
  refine Ev.iconst (v := (-1)) rfl (by decide) ?_
  refine Ev.putE rfl rfl c0 rfl rfl rfl (Nat.le_of_ble_eq_true rfl) (fun τ5 f1 q1 => ?_)
  replace hz : τ5.1 = b + 1 := f1.1.trans hz
  replace kp : ∀ q, q < b → τ5.2 q = σ.2 q := fun q h => (f1.2 q (by omega)).trans (kp q h)
  replace c0 : τ5.2 b = some (.inr (.inr (4, [.int 0, .int 0, .int 0, .int 0, .int (-1), .int 0]))) := q1
  clear f1 q1
  refine Ev.aload_n rfl rfl ?_
  refine Ev.iconst (v := 0) rfl (by decide) ?_
  refine Ev.putE rfl rfl c0 rfl rfl rfl (Nat.le_of_ble_eq_true rfl) (fun τ6 f1 q1 => ?_)
  replace hz : τ6.1 = b + 1 := f1.1.trans hz
  replace kp : ∀ q, q < b → τ6.2 q = σ.2 q := fun q h => (f1.2 q (by omega)).trans (kp q h)
  replace c0 : τ6.2 b = some (.inr (.inr (4, [.int 0, .int 0, .int 0, .int 0, .int (-1), .int 0]))) := q1
  clear f1 q1
  refine Ev.ret rfl rfl (by omega) (by omega) ?_
  rw [← hQ]
  exact ⟨rfl, hz, kp, c0⟩
theorem Plan_init_ok (hz : σ.1 = b + 1) (c0 : σ.2 b = some (.inr (.inr (3, [.int 0, .null])))) : RetN Γ m_Plan_init 7 42 b σ 8 (fun τ => isP τ b P0) := by
  unfold RetN
  generalize hQ : (fun (r : Option Value) (τ : ex_S) => r = none ∧ τ.1 = b + 8 ∧ (∀ q, q < b → τ.2 q = σ.2 q) ∧ (fun τ : ex_S => isP τ b P0) τ) = Q
  refine Ret.start pm_104 rfl ?_
  have kp : ∀ q, q < b → σ.2 q = σ.2 q := fun _ _ => rfl
  refine Ev.aload_n rfl rfl ?_
  refine Ev.objInit rfl rfl rfl (Nat.le_of_ble_eq_true rfl) ?_
  refine Ev.aload_n rfl rfl ?_
  refine Ev.iconst (v := 0) rfl (by decide) ?_
  refine Ev.putE rfl rfl c0 rfl rfl rfl (Nat.le_of_ble_eq_true rfl) (fun τ1 f1 q1 => ?_)
  replace hz : τ1.1 = b + 1 := f1.1.trans hz
  replace kp : ∀ q, q < b → τ1.2 q = σ.2 q := fun q h => (f1.2 q (by omega)).trans (kp q h)
  replace c0 : τ1.2 b = some (.inr (.inr (3, [.int 0, .null]))) := q1
  clear f1 q1
  refine Ev.aload_n rfl rfl ?_
  refine Ev.bipush (v := 6) rfl (by decide) ?_
  refine Ev.anewE (t := 5) (N := 6) hz rfl rfl rfl rfl pa_5 (by decide) (by decide) (by decide) (by omega) (by omega) (fun τ2 hz1 hk c1 => ?_)
  replace c0 := (hk b (by omega)).trans c0
  replace kp : ∀ q, q < b → τ2.2 q = σ.2 q := fun q h => (hk q (by omega)).trans (kp q h)
  replace hz : τ2.1 = b + 2 := hz1
  clear hk hz1
  refine Ev.putFE rfl rfl c0 rfl rfl rfl rfl rfl (Nat.le_of_ble_eq_true rfl) (fun τ3 f1 q1 => ?_)
  replace c1 := f1.cell c1 (by omega)
  replace hz : τ3.1 = b + 2 := f1.1.trans hz
  replace kp : ∀ q, q < b → τ3.2 q = σ.2 q := fun q h => (f1.2 q (by omega)).trans (kp q h)
  replace c0 : τ3.2 b = some (.inr (.inr (3, [.int 0, .ref (b + 1)]))) := q1
  clear f1 q1
  refine Ev.iconst (v := 0) rfl (by decide) ?_
  refine Ev.istore_n rfl rfl rfl ?_
  refine Ev.iload_n rfl rfl ?_
  refine Ev.bipush (v := 6) rfl (by decide) ?_
  refine Ev.icmp_ge (tgt := 45) rfl (by decide) (fun c => absurd c (by decide)) (fun c => ?_)
  refine Ev.aload_n rfl rfl ?_
  refine Ev.getf rfl rfl c0 rfl ?_
  refine Ev.iload_n rfl rfl ?_
  refine Ev.newcE (nf := 6) (fs := [.int 0, .int 0, .int 0, .int 0, .int 0, .int 0]) hz rfl rfl rfl rfl (fun j hj => by have hj : j < 6 := hj; match j, hj with | 0, _ => rfl | 1, _ => rfl | 2, _ => rfl | 3, _ => rfl | 4, _ => rfl | 5, _ => rfl) (by omega) (by omega) (fun τ4 hz1 hk c2 => ?_)
  replace c0 := (hk b (by omega)).trans c0
  replace c1 := (hk (b + 1) (by omega)).trans c1
  replace kp : ∀ q, q < b → τ4.2 q = σ.2 q := fun q h => (hk q (by omega)).trans (kp q h)
  replace hz : τ4.1 = b + 3 := hz1
  clear hk hz1
  refine Ev.dup rfl rfl ?_
  refine Ev.mkIN rfl rfl rfl rfl ⟨by omega, by omega⟩ (Lesson_init_ok hz c2) (fun τ5 hz1 hk c2 => ?_)
  replace c0 := (hk b (by omega)).trans c0
  replace c1 := (hk (b + 1) (by omega)).trans c1
  replace kp : ∀ q, q < b → τ5.2 q = σ.2 q := fun q h => (hk q (by omega)).trans (kp q h)
  replace hz : τ5.1 = b + 3 := hz1
  clear hk hz1
  refine Ev.aastE (k := 0) rfl c1 rfl rfl c2 (by decide) ⟨by decide, by decide⟩ (fun τ6 f1 q1 => ?_)
  replace c0 := f1.cell c0 (by omega)
  replace c2 := c2.frm f1 (by omega)
  replace hz : τ6.1 = b + 3 := f1.1.trans hz
  replace kp : ∀ q, q < b → τ6.2 q = σ.2 q := fun q h => (f1.2 q (by omega)).trans (kp q h)
  replace c1 : τ6.2 (b + 1) = some (.inr (.inl (5, 6, va_up (fun _ => none) 0 (some (b + 2))))) := q1
  clear f1 q1
  refine Ev.iinc (d := 1) rfl rfl rfl (by decide) rfl ?_
  refine Ev.goto (tgt := 20) rfl (by decide) ?_
  refine Ev.iload_n rfl rfl ?_
  refine Ev.bipush (v := 6) rfl (by decide) ?_
  refine Ev.icmp_ge (tgt := 45) rfl (by decide) (fun c => absurd c (by decide)) (fun c => ?_)
  refine Ev.aload_n rfl rfl ?_
  refine Ev.getf rfl rfl c0 rfl ?_
  refine Ev.iload_n rfl rfl ?_
  refine Ev.newcE (nf := 6) (fs := [.int 0, .int 0, .int 0, .int 0, .int 0, .int 0]) hz rfl rfl rfl rfl (fun j hj => by have hj : j < 6 := hj; match j, hj with | 0, _ => rfl | 1, _ => rfl | 2, _ => rfl | 3, _ => rfl | 4, _ => rfl | 5, _ => rfl) (by omega) (by omega) (fun τ7 hz1 hk c3 => ?_)
  replace c0 := (hk b (by omega)).trans c0
  replace c1 := (hk (b + 1) (by omega)).trans c1
  replace c2 := c2.keep (fun q h1 h2 => hk q (by omega))
  replace kp : ∀ q, q < b → τ7.2 q = σ.2 q := fun q h => (hk q (by omega)).trans (kp q h)
  replace hz : τ7.1 = b + 4 := hz1
  clear hk hz1
  refine Ev.dup rfl rfl ?_
  refine Ev.mkIN rfl rfl rfl rfl ⟨by omega, by omega⟩ (Lesson_init_ok hz c3) (fun τ8 hz1 hk c3 => ?_)
  replace c0 := (hk b (by omega)).trans c0
  replace c1 := (hk (b + 1) (by omega)).trans c1
  replace c2 := c2.keep (fun q h1 h2 => hk q (by omega))
  replace kp : ∀ q, q < b → τ8.2 q = σ.2 q := fun q h => (hk q (by omega)).trans (kp q h)
  replace hz : τ8.1 = b + 4 := hz1
  clear hk hz1
  refine Ev.aastE (k := 1) rfl c1 rfl rfl c3 (by decide) ⟨by decide, by decide⟩ (fun τ9 f1 q1 => ?_)
  replace c0 := f1.cell c0 (by omega)
  replace c2 := c2.frm f1 (by omega)
  replace c3 := c3.frm f1 (by omega)
  replace hz : τ9.1 = b + 4 := f1.1.trans hz
  replace kp : ∀ q, q < b → τ9.2 q = σ.2 q := fun q h => (f1.2 q (by omega)).trans (kp q h)
  replace c1 : τ9.2 (b + 1) = some (.inr (.inl (5, 6, va_up (va_up (fun _ => none) 0 (some (b + 2))) 1 (some (b + 3))))) := q1
  clear f1 q1
  refine Ev.iinc (d := 1) rfl rfl rfl (by decide) rfl ?_
  refine Ev.goto (tgt := 20) rfl (by decide) ?_
  refine Ev.iload_n rfl rfl ?_
  refine Ev.bipush (v := 6) rfl (by decide) ?_
  refine Ev.icmp_ge (tgt := 45) rfl (by decide) (fun c => absurd c (by decide)) (fun c => ?_)
  refine Ev.aload_n rfl rfl ?_
  refine Ev.getf rfl rfl c0 rfl ?_
  refine Ev.iload_n rfl rfl ?_
  refine Ev.newcE (nf := 6) (fs := [.int 0, .int 0, .int 0, .int 0, .int 0, .int 0]) hz rfl rfl rfl rfl (fun j hj => by have hj : j < 6 := hj; match j, hj with | 0, _ => rfl | 1, _ => rfl | 2, _ => rfl | 3, _ => rfl | 4, _ => rfl | 5, _ => rfl) (by omega) (by omega) (fun τ10 hz1 hk c4 => ?_)
  replace c0 := (hk b (by omega)).trans c0
  replace c1 := (hk (b + 1) (by omega)).trans c1
  replace c2 := c2.keep (fun q h1 h2 => hk q (by omega))
  replace c3 := c3.keep (fun q h1 h2 => hk q (by omega))
  replace kp : ∀ q, q < b → τ10.2 q = σ.2 q := fun q h => (hk q (by omega)).trans (kp q h)
  replace hz : τ10.1 = b + 5 := hz1
  clear hk hz1
  refine Ev.dup rfl rfl ?_
  refine Ev.mkIN rfl rfl rfl rfl ⟨by omega, by omega⟩ (Lesson_init_ok hz c4) (fun τ11 hz1 hk c4 => ?_)
  replace c0 := (hk b (by omega)).trans c0
  replace c1 := (hk (b + 1) (by omega)).trans c1
  replace c2 := c2.keep (fun q h1 h2 => hk q (by omega))
  replace c3 := c3.keep (fun q h1 h2 => hk q (by omega))
  replace kp : ∀ q, q < b → τ11.2 q = σ.2 q := fun q h => (hk q (by omega)).trans (kp q h)
  replace hz : τ11.1 = b + 5 := hz1
  clear hk hz1
  refine Ev.aastE (k := 2) rfl c1 rfl rfl c4 (by decide) ⟨by decide, by decide⟩ (fun τ12 f1 q1 => ?_)
  replace c0 := f1.cell c0 (by omega)
  replace c2 := c2.frm f1 (by omega)
  replace c3 := c3.frm f1 (by omega)
  replace c4 := c4.frm f1 (by omega)
  replace hz : τ12.1 = b + 5 := f1.1.trans hz
  replace kp : ∀ q, q < b → τ12.2 q = σ.2 q := fun q h => (f1.2 q (by omega)).trans (kp q h)
  replace c1 : τ12.2 (b + 1) = some (.inr (.inl (5, 6, va_up (va_up (va_up (fun _ => none) 0 (some (b + 2))) 1 (some (b + 3))) 2 (some (b + 4))))) := q1
  clear f1 q1
  refine Ev.iinc (d := 1) rfl rfl rfl (by decide) rfl ?_
  refine Ev.goto (tgt := 20) rfl (by decide) ?_
  refine Ev.iload_n rfl rfl ?_
  refine Ev.bipush (v := 6) rfl (by decide) ?_
  refine Ev.icmp_ge (tgt := 45) rfl (by decide) (fun c => absurd c (by decide)) (fun c => ?_)
  refine Ev.aload_n rfl rfl ?_
  refine Ev.getf rfl rfl c0 rfl ?_
  refine Ev.iload_n rfl rfl ?_
  refine Ev.newcE (nf := 6) (fs := [.int 0, .int 0, .int 0, .int 0, .int 0, .int 0]) hz rfl rfl rfl rfl (fun j hj => by have hj : j < 6 := hj; match j, hj with | 0, _ => rfl | 1, _ => rfl | 2, _ => rfl | 3, _ => rfl | 4, _ => rfl | 5, _ => rfl) (by omega) (by omega) (fun τ13 hz1 hk c5 => ?_)
  replace c0 := (hk b (by omega)).trans c0
  replace c1 := (hk (b + 1) (by omega)).trans c1
  replace c2 := c2.keep (fun q h1 h2 => hk q (by omega))
  replace c3 := c3.keep (fun q h1 h2 => hk q (by omega))
  replace c4 := c4.keep (fun q h1 h2 => hk q (by omega))
  replace kp : ∀ q, q < b → τ13.2 q = σ.2 q := fun q h => (hk q (by omega)).trans (kp q h)
  replace hz : τ13.1 = b + 6 := hz1
  clear hk hz1
  refine Ev.dup rfl rfl ?_
  refine Ev.mkIN rfl rfl rfl rfl ⟨by omega, by omega⟩ (Lesson_init_ok hz c5) (fun τ14 hz1 hk c5 => ?_)
  replace c0 := (hk b (by omega)).trans c0
  replace c1 := (hk (b + 1) (by omega)).trans c1
  replace c2 := c2.keep (fun q h1 h2 => hk q (by omega))
  replace c3 := c3.keep (fun q h1 h2 => hk q (by omega))
  replace c4 := c4.keep (fun q h1 h2 => hk q (by omega))
  replace kp : ∀ q, q < b → τ14.2 q = σ.2 q := fun q h => (hk q (by omega)).trans (kp q h)
  replace hz : τ14.1 = b + 6 := hz1
  clear hk hz1
  refine Ev.aastE (k := 3) rfl c1 rfl rfl c5 (by decide) ⟨by decide, by decide⟩ (fun τ15 f1 q1 => ?_)
  replace c0 := f1.cell c0 (by omega)
  replace c2 := c2.frm f1 (by omega)
  replace c3 := c3.frm f1 (by omega)
  replace c4 := c4.frm f1 (by omega)
  replace c5 := c5.frm f1 (by omega)
  replace hz : τ15.1 = b + 6 := f1.1.trans hz
  replace kp : ∀ q, q < b → τ15.2 q = σ.2 q := fun q h => (f1.2 q (by omega)).trans (kp q h)
  replace c1 : τ15.2 (b + 1) = some (.inr (.inl (5, 6, va_up (va_up (va_up (va_up (fun _ => none) 0 (some (b + 2))) 1 (some (b + 3))) 2 (some (b + 4))) 3 (some (b + 5))))) := q1
  clear f1 q1
  refine Ev.iinc (d := 1) rfl rfl rfl (by decide) rfl ?_
  refine Ev.goto (tgt := 20) rfl (by decide) ?_
  refine Ev.iload_n rfl rfl ?_
  refine Ev.bipush (v := 6) rfl (by decide) ?_
  refine Ev.icmp_ge (tgt := 45) rfl (by decide) (fun c => absurd c (by decide)) (fun c => ?_)
  refine Ev.aload_n rfl rfl ?_
  refine Ev.getf rfl rfl c0 rfl ?_
  refine Ev.iload_n rfl rfl ?_
  refine Ev.newcE (nf := 6) (fs := [.int 0, .int 0, .int 0, .int 0, .int 0, .int 0]) hz rfl rfl rfl rfl (fun j hj => by have hj : j < 6 := hj; match j, hj with | 0, _ => rfl | 1, _ => rfl | 2, _ => rfl | 3, _ => rfl | 4, _ => rfl | 5, _ => rfl) (by omega) (by omega) (fun τ16 hz1 hk c6 => ?_)
  replace c0 := (hk b (by omega)).trans c0
  replace c1 := (hk (b + 1) (by omega)).trans c1
  replace c2 := c2.keep (fun q h1 h2 => hk q (by omega))
  replace c3 := c3.keep (fun q h1 h2 => hk q (by omega))
  replace c4 := c4.keep (fun q h1 h2 => hk q (by omega))
  replace c5 := c5.keep (fun q h1 h2 => hk q (by omega))
  replace kp : ∀ q, q < b → τ16.2 q = σ.2 q := fun q h => (hk q (by omega)).trans (kp q h)
  replace hz : τ16.1 = b + 7 := hz1
  clear hk hz1
  refine Ev.dup rfl rfl ?_
  refine Ev.mkIN rfl rfl rfl rfl ⟨by omega, by omega⟩ (Lesson_init_ok hz c6) (fun τ17 hz1 hk c6 => ?_)
  replace c0 := (hk b (by omega)).trans c0
  replace c1 := (hk (b + 1) (by omega)).trans c1
  replace c2 := c2.keep (fun q h1 h2 => hk q (by omega))
  replace c3 := c3.keep (fun q h1 h2 => hk q (by omega))
  replace c4 := c4.keep (fun q h1 h2 => hk q (by omega))
  replace c5 := c5.keep (fun q h1 h2 => hk q (by omega))
  replace kp : ∀ q, q < b → τ17.2 q = σ.2 q := fun q h => (hk q (by omega)).trans (kp q h)
  replace hz : τ17.1 = b + 7 := hz1
  clear hk hz1
  refine Ev.aastE (k := 4) rfl c1 rfl rfl c6 (by decide) ⟨by decide, by decide⟩ (fun τ18 f1 q1 => ?_)
  replace c0 := f1.cell c0 (by omega)
  replace c2 := c2.frm f1 (by omega)
  replace c3 := c3.frm f1 (by omega)
  replace c4 := c4.frm f1 (by omega)
  replace c5 := c5.frm f1 (by omega)
  replace c6 := c6.frm f1 (by omega)
  replace hz : τ18.1 = b + 7 := f1.1.trans hz
  replace kp : ∀ q, q < b → τ18.2 q = σ.2 q := fun q h => (f1.2 q (by omega)).trans (kp q h)
  replace c1 : τ18.2 (b + 1) = some (.inr (.inl (5, 6, va_up (va_up (va_up (va_up (va_up (fun _ => none) 0 (some (b + 2))) 1 (some (b + 3))) 2 (some (b + 4))) 3 (some (b + 5))) 4 (some (b + 6))))) := q1
  clear f1 q1
  refine Ev.iinc (d := 1) rfl rfl rfl (by decide) rfl ?_
  refine Ev.goto (tgt := 20) rfl (by decide) ?_
  refine Ev.iload_n rfl rfl ?_
  refine Ev.bipush (v := 6) rfl (by decide) ?_
  refine Ev.icmp_ge (tgt := 45) rfl (by decide) (fun c => absurd c (by decide)) (fun c => ?_)
  refine Ev.aload_n rfl rfl ?_
  refine Ev.getf rfl rfl c0 rfl ?_
  refine Ev.iload_n rfl rfl ?_
  refine Ev.newcE (nf := 6) (fs := [.int 0, .int 0, .int 0, .int 0, .int 0, .int 0]) hz rfl rfl rfl rfl (fun j hj => by have hj : j < 6 := hj; match j, hj with | 0, _ => rfl | 1, _ => rfl | 2, _ => rfl | 3, _ => rfl | 4, _ => rfl | 5, _ => rfl) (by omega) (by omega) (fun τ19 hz1 hk c7 => ?_)
  replace c0 := (hk b (by omega)).trans c0
  replace c1 := (hk (b + 1) (by omega)).trans c1
  replace c2 := c2.keep (fun q h1 h2 => hk q (by omega))
  replace c3 := c3.keep (fun q h1 h2 => hk q (by omega))
  replace c4 := c4.keep (fun q h1 h2 => hk q (by omega))
  replace c5 := c5.keep (fun q h1 h2 => hk q (by omega))
  replace c6 := c6.keep (fun q h1 h2 => hk q (by omega))
  replace kp : ∀ q, q < b → τ19.2 q = σ.2 q := fun q h => (hk q (by omega)).trans (kp q h)
  replace hz : τ19.1 = b + 8 := hz1
  clear hk hz1
  refine Ev.dup rfl rfl ?_
  refine Ev.mkIN rfl rfl rfl rfl ⟨by omega, by omega⟩ (Lesson_init_ok hz c7) (fun τ20 hz1 hk c7 => ?_)
  replace c0 := (hk b (by omega)).trans c0
  replace c1 := (hk (b + 1) (by omega)).trans c1
  replace c2 := c2.keep (fun q h1 h2 => hk q (by omega))
  replace c3 := c3.keep (fun q h1 h2 => hk q (by omega))
  replace c4 := c4.keep (fun q h1 h2 => hk q (by omega))
  replace c5 := c5.keep (fun q h1 h2 => hk q (by omega))
  replace c6 := c6.keep (fun q h1 h2 => hk q (by omega))
  replace kp : ∀ q, q < b → τ20.2 q = σ.2 q := fun q h => (hk q (by omega)).trans (kp q h)
  replace hz : τ20.1 = b + 8 := hz1
  clear hk hz1
  refine Ev.aastE (k := 5) rfl c1 rfl rfl c7 (by decide) ⟨by decide, by decide⟩ (fun τ21 f1 q1 => ?_)
  replace c0 := f1.cell c0 (by omega)
  replace c2 := c2.frm f1 (by omega)
  replace c3 := c3.frm f1 (by omega)
  replace c4 := c4.frm f1 (by omega)
  replace c5 := c5.frm f1 (by omega)
  replace c6 := c6.frm f1 (by omega)
  replace c7 := c7.frm f1 (by omega)
  replace hz : τ21.1 = b + 8 := f1.1.trans hz
  replace kp : ∀ q, q < b → τ21.2 q = σ.2 q := fun q h => (f1.2 q (by omega)).trans (kp q h)
  replace c1 : τ21.2 (b + 1) = some (.inr (.inl (5, 6, va_up (va_up (va_up (va_up (va_up (va_up (fun _ => none) 0 (some (b + 2))) 1 (some (b + 3))) 2 (some (b + 4))) 3 (some (b + 5))) 4 (some (b + 6))) 5 (some (b + 7))))) := q1
  clear f1 q1
  refine Ev.iinc (d := 1) rfl rfl rfl (by decide) rfl ?_
  refine Ev.goto (tgt := 20) rfl (by decide) ?_
  refine Ev.iload_n rfl rfl ?_
  refine Ev.bipush (v := 6) rfl (by decide) ?_
  refine Ev.icmp_ge (tgt := 45) rfl (by decide) (fun c => ?_) (fun c => absurd (by decide) c)
  refine Ev.ret rfl rfl (by omega) (by omega) ?_
  rw [← hQ]
  exact ⟨rfl, hz, kp, ⟨c0, ⟨_, c1, fun k hk => by match k, hk with | 0, _ => rfl | 1, _ => rfl | 2, _ => rfl | 3, _ => rfl | 4, _ => rfl | 5, _ => rfl⟩, fun k hk => by match k, hk with | 0, _ => exact c2 | 1, _ => exact c3 | 2, _ => exact c4 | 3, _ => exact c5 | 4, _ => exact c6 | 5, _ => exact c7⟩⟩
end
end
