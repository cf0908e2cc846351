/-! Loops as folds. -/
noncomputable section
/-- k steps of F from i on -/
def fo {T : Type} (F : Nat → T → T) : Nat → Nat → T → T
  | 0, _, x => x
  | k + 1, i, x => fo F k (i + 1) (F i x)
theorem fo_zero {T : Type} (F : Nat → T → T) (i : Nat) (x : T) : fo F 0 i x = x := rfl
theorem fo_succ {T : Type} (F : Nat → T → T) (k i : Nat) (x : T) : fo F (k + 1) i x = fo F k (i + 1) (F i x) := rfl
theorem fo_last {T : Type} (F : Nat → T → T) : ∀ (k i : Nat) (x : T), fo F (k + 1) i x = F (i + k) (fo F k i x) := by
  intro k
  induction k with
  | zero => intro i x; rfl
  | succ k ih =>
    intro i x
    rw [fo_succ, ih, fo_succ]
    congr 1
    omega
theorem fo_add {T : Type} (F : Nat → T → T) : ∀ (j k i : Nat) (x : T), fo F (j + k) i x = fo F k (i + j) (fo F j i x) := by
  intro j
  induction j with
  | zero => intro k i x; simp [fo]
  | succ j ih =>
    intro k i x
    rw [show j + 1 + k = (j + k) + 1 by omega, fo_succ, ih, fo_succ]
    congr 1
    omega
theorem fo_cong {T : Type} {F G : Nat → T → T} : ∀ (k i : Nat) (x : T), (∀ j y, i ≤ j → j < i + k → F j y = G j y) → fo F k i x = fo G k i x := by
  intro k
  induction k with
  | zero => intro i x _; rfl
  | succ k ih =>
    intro i x h
    rw [fo_succ, fo_succ, h i x (Nat.le_refl _) (by omega)]
    exact ih (i + 1) _ (fun j y h1 h2 => h j y (by omega) (by omega))
theorem fo_id {T : Type} {F : Nat → T → T} : ∀ (k i : Nat) (x : T), (∀ j y, i ≤ j → j < i + k → F j y = y) → fo F k i x = x := by
  intro k
  induction k with
  | zero => intro i x _; rfl
  | succ k ih =>
    intro i x h
    rw [fo_succ, h i x (Nat.le_refl _) (by omega)]
    exact ih (i + 1) x (fun j y h1 h2 => h j y (by omega) (by omega))
/-- what holds along a fold -/
theorem fo_inv {T : Type} {F : Nat → T → T} (J : Nat → T → Prop) : ∀ (k i : Nat) (x : T), J i x → (∀ j y, i ≤ j → j < i + k → J j y → J (j + 1) (F j y)) → J (i + k) (fo F k i x) := by
  intro k
  induction k with
  | zero => intro i x h _; exact h
  | succ k ih =>
    intro i x h hs
    rw [fo_succ, show i + (k + 1) = (i + 1) + k by omega]
    exact ih (i + 1) _ (hs i x (Nat.le_refl _) (by omega) h) (fun j y h1 h2 => hs j y (by omega) (by omega))
/-- a loop that goes from i up to n: P at the head with i and x -/
theorem lp {T : Type} (P : Nat → T → Prop) (F : Nat → T → T) (n : Nat) (hs : ∀ i x, i < n → P (i + 1) (F i x) → P i x) : ∀ k i x, i + k = n → P n (fo F k i x) → P i x := by
  intro k
  induction k with
  | zero =>
    intro i x h hp
    have : i = n := by omega
    subst this
    exact hp
  | succ k ih =>
    intro i x h hp
    exact hs i x (by omega) (ih (i + 1) (F i x) (by omega) hp)
/-- the same with what holds along it -/
theorem lpJ {T : Type} (P : Nat → T → Prop) (J : Nat → T → Prop) (F : Nat → T → T) (n : Nat) (hJ : ∀ i x, i < n → J i x → J (i + 1) (F i x)) (hs : ∀ i x, i < n → J i x → P (i + 1) (F i x) → P i x) : ∀ k i x, i + k = n → J i x → (J n (fo F k i x) → P n (fo F k i x)) → P i x := by
  intro k
  induction k with
  | zero =>
    intro i x h hj hp
    have : i = n := by omega
    subst this
    exact hp hj
  | succ k ih =>
    intro i x h hj hp
    exact hs i x (by omega) hj (ih (i + 1) (F i x) (by omega) (hJ i x (by omega) hj) hp)
theorem Ev.cg {Γ : ex_G} {RC RS mi cells slots pc : Nat} {L L' : ex_L} {st st' : List Value} {σ σ' : ex_S} {Q : Option Value → ex_S → Prop} (h : Ev Γ RC RS mi cells slots pc L' st' σ' Q) (hL : L = L') (hst : st = st' := by rfl) (hσ : σ = σ' := by rfl) : Ev Γ RC RS mi cells slots pc L st σ Q := by
  subst hL; subst hst; subst hσ
  exact h
theorem Ev.mono {Γ : ex_G} {RC RS mi cells slots pc : Nat} {L : ex_L} {st : List Value} {σ : ex_S} {Q Q' : Option Value → ex_S → Prop} (h : Ev Γ RC RS mi cells slots pc L st σ Q) (hQ : ∀ v s, Q v s → Q' v s) : Ev Γ RC RS mi cells slots pc L st σ Q' := by
  intro p l e R s m args below meth c H locs ls Z X r1 r2 hM hS hL hn hZ
  exact h p l e R s m args below meth c H locs ls Z X r1 r2 hM hS hL hn (fun v σ' H' locs' ls' pc' hq => hZ v σ' H' locs' ls' pc' (hQ v σ' hq))
section
variable {Γ : ex_G} {RC RS mi cells slots pc : Nat} {L : ex_L} {st : List Value} {σ : ex_S} {Q : Option Value → ex_S → Prop}
theorem ex_inN {n k : Nat} {i : Int32} (hk : i = nI k) (hn : k < n ∧ n < 2 ^ 31) : vp_in i n ∧ i.toNatClampNeg = k := by
  subst hk
  exact ⟨vp_in_nI hn.1 hn.2, nI_clamp (by omega)⟩
theorem Ev.ialdN {a n k : Nat} {f : Nat → Int32} {i : Int32} (hi : pg_ins mi pc = some (.iaload, 1)) (ha : σ.2 a = some (.inl (0, n, f))) (hk : i = nI k) (hn : k < n ∧ n < 2 ^ 31) (h : Ev Γ RC RS mi cells slots (pc + 1) L (.int (f k) :: st) σ Q) : Ev Γ RC RS mi cells slots pc L (.int i :: .ref a :: st) σ Q := by
  obtain ⟨h1, h2⟩ := ex_inN hk hn
  exact Ev.iald hi ha h1 (by rw [h2]; exact h)
theorem Ev.baldN {a n k : Nat} {f : Nat → Int32} {i : Int32} (hi : pg_ins mi pc = some (.baload, 1)) (ha : σ.2 a = some (.inl (1, n, f))) (hk : i = nI k) (hn : k < n ∧ n < 2 ^ 31) (h : Ev Γ RC RS mi cells slots (pc + 1) L (.int (f k) :: st) σ Q) : Ev Γ RC RS mi cells slots pc L (.int i :: .ref a :: st) σ Q := by
  obtain ⟨h1, h2⟩ := ex_inN hk hn
  exact Ev.bald hi ha h1 (by rw [h2]; exact h)
theorem Ev.zaldN {a n k : Nat} {f : Nat → Int32} {i : Int32} (hi : pg_ins mi pc = some (.baload, 1)) (ha : σ.2 a = some (.inl (2, n, f))) (hk : i = nI k) (hn : k < n ∧ n < 2 ^ 31) (h : Ev Γ RC RS mi cells slots (pc + 1) L (.int (f k) :: st) σ Q) : Ev Γ RC RS mi cells slots pc L (.int i :: .ref a :: st) σ Q := by
  obtain ⟨h1, h2⟩ := ex_inN hk hn
  exact Ev.zald hi ha h1 (by rw [h2]; exact h)
theorem Ev.ialdSN {a n k : Nat} {f : Nat → Int32} {i : Int32} (hi : pg_ins mi pc = some (.iaload, 1)) (ha : (a, 0, n, f) ∈ gA Γ) (hk : i = nI k) (hn : k < n ∧ n < 2 ^ 31) (h : Ev Γ RC RS mi cells slots (pc + 1) L (.int (f k) :: st) σ Q) : Ev Γ RC RS mi cells slots pc L (.int i :: .ref a :: st) σ Q := by
  obtain ⟨h1, h2⟩ := ex_inN hk hn
  exact Ev.ialdS hi ha h1 (by rw [h2]; exact h)
theorem Ev.aaldN {a n t k v : Nat} {f : Nat → Option Nat} {i : Int32} {C : String} (hi : pg_ins mi pc = some (.aaload, 1)) (ha : σ.2 a = some (.inr (.inl (t, n, f)))) (ht : ex_tl[t]? = some (.object C)) (hk : i = nI k) (hn : k < n ∧ n < 2 ^ 31) (hv : f k = some v) (h : Ev Γ RC RS mi cells slots (pc + 1) L (.ref v :: st) σ Q) : Ev Γ RC RS mi cells slots pc L (.int i :: .ref a :: st) σ Q := by
  obtain ⟨h1, h2⟩ := ex_inN hk hn
  exact Ev.aald hi ha ht h1 (by rw [h2, hv]; exact h)
theorem Ev.iastN {a n k : Nat} {f : Nat → Int32} {i x : Int32} (hi : pg_ins mi pc = some (.iastore, 1)) (ha : σ.2 a = some (.inl (0, n, f))) (hk : i = nI k) (hn : k < n ∧ n < 2 ^ 31) (h : Ev Γ RC RS mi cells slots (pc + 1) L st (ex_put σ a (.inl (0, n, upd f k x))) Q) : Ev Γ RC RS mi cells slots pc L (.int x :: .int i :: .ref a :: st) σ Q := by
  obtain ⟨h1, h2⟩ := ex_inN hk hn
  exact Ev.iast hi ha h1 (by rw [h2]; exact h)
theorem Ev.bastN {a n k : Nat} {f : Nat → Int32} {i x : Int32} (hi : pg_ins mi pc = some (.bastore, 1)) (ha : σ.2 a = some (.inl (1, n, f))) (hk : i = nI k) (hn : k < n ∧ n < 2 ^ 31) (h : Ev Γ RC RS mi cells slots (pc + 1) L st (ex_put σ a (.inl (1, n, upd f k x.toInt8.toInt32))) Q) : Ev Γ RC RS mi cells slots pc L (.int x :: .int i :: .ref a :: st) σ Q := by
  obtain ⟨h1, h2⟩ := ex_inN hk hn
  exact Ev.bast hi ha h1 (by rw [h2]; exact h)
theorem Ev.zastN {a n k : Nat} {f : Nat → Int32} {i x : Int32} (hi : pg_ins mi pc = some (.bastore, 1)) (ha : σ.2 a = some (.inl (2, n, f))) (hk : i = nI k) (hn : k < n ∧ n < 2 ^ 31) (hx : narrow .boolean (.int x) = .int x) (h : Ev Γ RC RS mi cells slots (pc + 1) L st (ex_put σ a (.inl (2, n, upd f k x))) Q) : Ev Γ RC RS mi cells slots pc L (.int x :: .int i :: .ref a :: st) σ Q := by
  obtain ⟨h1, h2⟩ := ex_inN hk hn
  exact Ev.zast hi ha h1 hx (by rw [h2]; exact h)
end
theorem nI_lt_iff {a b : Nat} (ha : a < 2 ^ 31) (hb : b < 2 ^ 31) : nI a < nI b ↔ a < b := nI_ltI ha hb
end
