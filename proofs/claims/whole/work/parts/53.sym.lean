/-! What the walker wip/whole/sym.py stands on: numbers with their Nats, locals forgotten, compares in one form, loops that answer early. -/
noncomputable section
theorem nq_add {x y : Int32} {a b : Nat} (hx : x = nI a) (hy : y = nI b) : x + y = nI (a + b) := by subst hx; subst hy; exact nI_add a b
theorem nq_mul {x y : Int32} {a b : Nat} (hx : x = nI a) (hy : y = nI b) : x * y = nI (a * b) := by subst hx; subst hy; exact pk_mul a b
theorem nq_sub {x y : Int32} {a b : Nat} (hx : x = nI a) (hy : y = nI b) (h : b ≤ a) : x - y = nI (a - b) := by subst hx; subst hy; exact pk_sub h
theorem nq_dec {x y : Int32} {a b : Nat} (hx : x = nI a) (hy : y = - nI b) (h : b ≤ a) : x + y = nI (a - b) := by
  subst hx; subst hy
  rw [← pk_sub h, Int32.sub_eq_add_neg]
theorem nq_to {x : Int32} {a b : Nat} (hx : x = nI a) (h : a = b) : x = nI b := by subst h; exact hx
theorem gz : ex_ge [] [] := trivial
theorem gs {v v' : Value} {r r' : ex_L} (h : v = v') (g : ex_ge r r') : ex_ge (some v :: r) (some v' :: r') := ⟨h, g⟩
theorem gn {v : Option Value} {r r' : ex_L} (g : ex_ge r r') : ex_ge (none :: r) (v :: r') := by
  cases v <;> exact g
theorem nlt_le {a b : Int32} : ¬ a < b ↔ b ≤ a := by rw [le_toInt, lt_toInt]; omega
section
variable {Γ : ex_G} {RC RS mi cells slots pc : Nat} {L : ex_L} {st : List Value} {σ : ex_S} {Q : Option Value → ex_S → Prop} {x y : Int32} {off : Int} {tgt : Nat}
theorem Ev.jeq (hi : pg_ins mi pc = some (.if_icmp .eq off, 3)) (ht : (pc : Int) + off = (tgt : Int)) (h1 : x = y → Ev Γ RC RS mi cells slots tgt L st σ Q) (h2 : ¬ x = y → Ev Γ RC RS mi cells slots (pc + 3) L st σ Q) : Ev Γ RC RS mi cells slots pc L (.int y :: .int x :: st) σ Q := Ev.icmp_eq hi ht h1 h2
theorem Ev.jne (hi : pg_ins mi pc = some (.if_icmp .ne off, 3)) (ht : (pc : Int) + off = (tgt : Int)) (h1 : ¬ x = y → Ev Γ RC RS mi cells slots tgt L st σ Q) (h2 : x = y → Ev Γ RC RS mi cells slots (pc + 3) L st σ Q) : Ev Γ RC RS mi cells slots pc L (.int y :: .int x :: st) σ Q := Ev.icmp_ne hi ht h1 h2
theorem Ev.jlt (hi : pg_ins mi pc = some (.if_icmp .lt off, 3)) (ht : (pc : Int) + off = (tgt : Int)) (h1 : x < y → Ev Γ RC RS mi cells slots tgt L st σ Q) (h2 : ¬ x < y → Ev Γ RC RS mi cells slots (pc + 3) L st σ Q) : Ev Γ RC RS mi cells slots pc L (.int y :: .int x :: st) σ Q := Ev.icmp_lt hi ht h1 h2
theorem Ev.jge (hi : pg_ins mi pc = some (.if_icmp .ge off, 3)) (ht : (pc : Int) + off = (tgt : Int)) (h1 : ¬ x < y → Ev Γ RC RS mi cells slots tgt L st σ Q) (h2 : x < y → Ev Γ RC RS mi cells slots (pc + 3) L st σ Q) : Ev Γ RC RS mi cells slots pc L (.int y :: .int x :: st) σ Q := Ev.icmp_ge hi ht (fun c => h1 (nlt_le.mpr c)) (fun c => h2 (gt_le.mp c))
theorem Ev.jgt (hi : pg_ins mi pc = some (.if_icmp .gt off, 3)) (ht : (pc : Int) + off = (tgt : Int)) (h1 : y < x → Ev Γ RC RS mi cells slots tgt L st σ Q) (h2 : ¬ y < x → Ev Γ RC RS mi cells slots (pc + 3) L st σ Q) : Ev Γ RC RS mi cells slots pc L (.int y :: .int x :: st) σ Q := Ev.icmp_gt hi ht h1 h2
theorem Ev.jle (hi : pg_ins mi pc = some (.if_icmp .le off, 3)) (ht : (pc : Int) + off = (tgt : Int)) (h1 : ¬ y < x → Ev Γ RC RS mi cells slots tgt L st σ Q) (h2 : y < x → Ev Γ RC RS mi cells slots (pc + 3) L st σ Q) : Ev Γ RC RS mi cells slots pc L (.int y :: .int x :: st) σ Q := Ev.icmp_le hi ht (fun c => h1 (nlt_le.mpr c)) (fun c => h2 (gt_le.mp c))
theorem Ev.zeq (hi : pg_ins mi pc = some (.ifCond .eq off, 3)) (ht : (pc : Int) + off = (tgt : Int)) (h1 : x = 0 → Ev Γ RC RS mi cells slots tgt L st σ Q) (h2 : ¬ x = 0 → Ev Γ RC RS mi cells slots (pc + 3) L st σ Q) : Ev Γ RC RS mi cells slots pc L (.int x :: st) σ Q := Ev.if_eq hi ht h1 h2
theorem Ev.zne (hi : pg_ins mi pc = some (.ifCond .ne off, 3)) (ht : (pc : Int) + off = (tgt : Int)) (h1 : ¬ x = 0 → Ev Γ RC RS mi cells slots tgt L st σ Q) (h2 : x = 0 → Ev Γ RC RS mi cells slots (pc + 3) L st σ Q) : Ev Γ RC RS mi cells slots pc L (.int x :: st) σ Q := Ev.if_ne hi ht h1 h2
theorem Ev.zlt (hi : pg_ins mi pc = some (.ifCond .lt off, 3)) (ht : (pc : Int) + off = (tgt : Int)) (h1 : x < 0 → Ev Γ RC RS mi cells slots tgt L st σ Q) (h2 : ¬ x < 0 → Ev Γ RC RS mi cells slots (pc + 3) L st σ Q) : Ev Γ RC RS mi cells slots pc L (.int x :: st) σ Q := Ev.if_lt hi ht h1 h2
theorem Ev.zge (hi : pg_ins mi pc = some (.ifCond .ge off, 3)) (ht : (pc : Int) + off = (tgt : Int)) (h1 : ¬ x < 0 → Ev Γ RC RS mi cells slots tgt L st σ Q) (h2 : x < 0 → Ev Γ RC RS mi cells slots (pc + 3) L st σ Q) : Ev Γ RC RS mi cells slots pc L (.int x :: st) σ Q := Ev.if_ge hi ht (fun c => h1 (nlt_le.mpr c)) (fun c => h2 (gt_le.mp c))
theorem Ev.zgt (hi : pg_ins mi pc = some (.ifCond .gt off, 3)) (ht : (pc : Int) + off = (tgt : Int)) (h1 : 0 < x → Ev Γ RC RS mi cells slots tgt L st σ Q) (h2 : ¬ 0 < x → Ev Γ RC RS mi cells slots (pc + 3) L st σ Q) : Ev Γ RC RS mi cells slots pc L (.int x :: st) σ Q := Ev.if_gt hi ht h1 h2
theorem Ev.zle (hi : pg_ins mi pc = some (.ifCond .le off, 3)) (ht : (pc : Int) + off = (tgt : Int)) (h1 : ¬ 0 < x → Ev Γ RC RS mi cells slots tgt L st σ Q) (h2 : 0 < x → Ev Γ RC RS mi cells slots (pc + 3) L st σ Q) : Ev Γ RC RS mi cells slots pc L (.int x :: st) σ Q := Ev.if_le hi ht (fun c => h1 (nlt_le.mpr c)) (fun c => h2 (gt_le.mp c))
end
/-- k steps of F from i on, of which one may answer -/
def fe {T U : Type} (F : Nat → T → T ⊕ U) : Nat → Nat → T → T ⊕ U
  | 0, _, x => .inl x
  | k + 1, i, x => Sum.elim (fun z => fe F k (i + 1) z) (fun r => .inr r) (F i x)
theorem fe_zero {T U : Type} (F : Nat → T → T ⊕ U) (i : Nat) (x : T) : fe F 0 i x = .inl x := rfl
theorem fe_succ {T U : Type} (F : Nat → T → T ⊕ U) (k i : Nat) (x : T) : fe F (k + 1) i x = Sum.elim (fun z => fe F k (i + 1) z) (fun r => .inr r) (F i x) := rfl
theorem lpe {T U : Type} (P : Nat → T → Prop) (E : U → Prop) (F : Nat → T → T ⊕ U) (n : Nat) (hs : ∀ i x, i < n → (∀ z, F i x = .inl z → P (i + 1) z) → (∀ r, F i x = .inr r → E r) → P i x) : ∀ k i x, i + k = n → (∀ z, fe F k i x = .inl z → P n z) → (∀ r, fe F k i x = .inr r → E r) → P i x := by
  intro k
  induction k with
  | zero =>
    intro i x h hp _
    have : i = n := by omega
    subst this
    exact hp x rfl
  | succ k ih =>
    intro i x h hp he
    refine hs i x (by omega) (fun z hz => ih (i + 1) z (by omega) (fun w hw => hp w ?_) (fun r hr => he r ?_)) (fun r hr => he r ?_)
    · rw [fe_succ, hz, Sum.elim_inl]; exact hw
    · rw [fe_succ, hz, Sum.elim_inl]; exact hr
    · rw [fe_succ, hr, Sum.elim_inr]
/-- a set of a school's learners -/
def inS (S : Sch) (W : Int32) : Prop := ∃ w, w < 2 ^ S.1 ∧ W = nI w
theorem p16 {S : Sch} (hn : S.1 ≤ 16) : 2 ^ S.1 ≤ 65536 := Nat.pow_le_pow_right (by decide) hn
theorem inS_or {S : Sch} {V W : Int32} (hn : S.1 ≤ 16) (a : inS S V) (b : inS S W) : inS S (V ||| W) := by
  obtain ⟨v, hv, rfl⟩ := a
  obtain ⟨w, hw, rfl⟩ := b
  have := p16 hn
  exact ⟨v ||| w, Nat.or_lt_two_pow hv hw, or_nI (by omega) (by omega)⟩
theorem inS_bit {S : Sch} {l : Nat} (hn : S.1 ≤ 16) (hl : l < S.1) : inS S ((1 : Int32) <<< (nI l &&& 31)) :=
  ⟨2 ^ l, Nat.pow_lt_pow_right (by decide) hl, shl1_nI l (by omega)⟩
theorem inS_and {S : Sch} {V : Int32} (hn : S.1 ≤ 16) (a : inS S V) (X : Int32) : inS S (V &&& X) := by
  obtain ⟨v, hv, rfl⟩ := a
  have := p16 hn
  have e : X = nI X.toBitVec.toNat := by
    apply Int32.toBitVec_inj.mp
    apply BitVec.eq_of_toNat_eq
    simp [nI]
  rw [e, and_nI (by omega) X.toBitVec.isLt]
  exact ⟨_, Nat.lt_of_le_of_lt Nat.and_le_left hv, rfl⟩
theorem inS_0 {S : Sch} : inS S 0 := ⟨0, Nat.two_pow_pos _, rfl⟩
theorem many_inS {S : Sch} {W : Int32} (hn : S.1 ≤ 16) (h : inS S W) : K_many W = K_bc W := by
  obtain ⟨w, hw, rfl⟩ := h
  have := p16 hn
  exact many_nI (by omega)
theorem bc_inS {S : Sch} {W : Int32} (hn : S.1 ≤ 16) (h : inS S W) : ∃ k, k ≤ 17 ∧ K_bc W = nI k := by
  obtain ⟨w, hw, rfl⟩ := h
  have := p16 hn
  exact ⟨pop w, pop_le w, bc_nI (by omega)⟩
/-- an index into a row, out of two compares -/
theorem ix_vp {w a b : Int32} {A n : Nat} (h1 : ¬ w < a) (h2 : w < b) (ha : a = nI A) (hb : b = nI (A + n)) (hn : A + n < 2 ^ 31) : ∃ k, k < n ∧ w = nI (A + k) ∧ w - a = nI k := by
  subst ha; subst hb
  rw [lt_toInt, nI_toInt (by omega)] at h1
  rw [lt_toInt, nI_toInt (by omega)] at h2
  obtain ⟨j, hj, rfl⟩ := nI_of (x := w) (by
    rw [lt_toInt]
    have : (0 : Int32).toInt = 0 := by decide
    omega)
  rw [nI_toInt hj] at h1 h2
  refine ⟨j - A, by omega, by rw [show A + (j - A) = j by omega], pk_sub (by omega)⟩
section
variable {Γ : ex_G} {σ : ex_S} {a y s c p : Nat} {S : Sch} {C : Les} {P : Pln} {g A : Nat → Int32}
theorem has_y (hS : isS σ a S) (hn : S.1 ≤ 16) {l : Nat} (h : l < S.1) : RetV Γ m_School_has [.ref a, .int (nI l)] σ (.int 1) := by
  have := has_ok (Γ := Γ) hS (nI l)
  rw [has_yes h hn] at this
  exact this
theorem has_n (hS : isS σ a S) {l : Int32} (h : l < 0 ∨ nI S.1 ≤ l) : RetV Γ m_School_has [.ref a, .int l] σ (.int 0) := by
  have := has_ok (Γ := Γ) hS l
  rw [has_no h] at this
  exact this
theorem hasT_y (hS : isS σ a S) (hn : S.2.1 ≤ 5) {l : Nat} (h : l < S.2.1) : RetV Γ m_School_hasTeacher [.ref a, .int (nI l)] σ (.int 1) := by
  have := hasT_ok (Γ := Γ) hS (nI l)
  rw [hasT_yes h hn] at this
  exact this
theorem hasT_n (hS : isS σ a S) {l : Int32} (h : l < 0 ∨ nI S.2.1 ≤ l) : RetV Γ m_School_hasTeacher [.ref a, .int l] σ (.int 0) := by
  have := hasT_ok (Γ := Γ) hS l
  rw [hasT_no h] at this
  exact this
theorem m_in_y {v lo hi : Int32} (h : K_in v lo hi = 1) : RetV Γ m_M_isIn [.int v, .int lo, .int hi] σ (.int 1) := by
  have := m_in_ok (Γ := Γ) (σ := σ) v lo hi
  rw [h] at this
  exact this
theorem m_in_n {v lo hi : Int32} (h : K_in v lo hi = 0) : RetV Γ m_M_isIn [.int v, .int lo, .int hi] σ (.int 0) := by
  have := m_in_ok (Γ := Γ) (σ := σ) v lo hi
  rw [h] at this
  exact this
theorem m_fit_W (hM : isM σ y g A) (hS : mS A s S) (hs : s + 120 ≤ 4500) (hw : wS S) (hC : mL A c C) (hc : c + 6 ≤ 4500) (hl : wL C) (hg : goT S C) {l : Nat} (hll : l < S.1) {W : Int32} (hW : inS S W) : RetV Γ m_M_fitOf [.ref y, .int (nI s), .int (nI c), .int (nI l), .int W] σ (.int (K_fitting S C (S.2.2 0 l) (K_steps S W))) := by
  obtain ⟨w, h, rfl⟩ := hW
  exact m_fit_ok hM hS hs hw hC hc hl hg l hll w h
theorem m_by_W (hM : isM σ y g A) (hS : mS A s S) (hs : s + 120 ≤ 4500) (hw : wS S) (hC : mL A c C) (hc : c + 6 ≤ 4500) (hl : wL C) (hg : goT S C) {l : Nat} (hll : l < S.1) {W : Int32} (hW : inS S W) : RetV Γ m_M_learntBy [.ref y, .int (nI s), .int (nI c), .int (nI l), .int W] σ (.int (K_by S C W l)) := by
  obtain ⟨w, h, rfl⟩ := hW
  exact m_by_ok hM hS hs hw hC hc hl hg l hll w h
theorem m_tog_W (hM : isM σ y g A) (hS : mS A s S) (hs : s + 120 ≤ 4500) (hw : wS S) (hC : mL A c C) (hc : c + 6 ≤ 4500) (hl : wL C) (hg : goT S C) {W : Int32} (hW : inS S W) : RetV Γ m_M_learntIn [.ref y, .int (nI s), .int (nI c), .int W] σ (.int (K_tog S C W)) := by
  obtain ⟨w, h, rfl⟩ := hW
  exact m_tog_ok hM hS hs hw hC hc hl hg w h
theorem m_leaves_W (hM : isM σ y g A) (hS : mS A s S) (hs : s + 120 ≤ 4500) (hw : wS S) {X : Int32} (hX : ∃ k, k ≤ 17 ∧ X = nI k) : RetV Γ m_M_leaves [.ref y, .int (nI s), .int X] σ (.int (K_part S X)) := by
  obtain ⟨k, h, rfl⟩ := hX
  exact m_leaves_ok hM hS hs hw k h
theorem m_many_W {W : Int32} (hn : S.1 ≤ 16) (hW : inS S W) : RetV Γ m_M_many [.int W] σ (.int (K_bc W)) := by
  rw [← many_inS hn hW]
  exact m_many_ok W
end
end
