/-! A method's run over a store of cells: rows of one instruction each, machine and frame hidden. -/
noncomputable section
/-- the start's address, classes and slots, array classes, static arrays by address, static values by number, texts -/
abbrev ex_G : Type := Nat × va_G × (Nat → ClassId) × List (Nat × Nat × Nat × (Nat → Int32)) × (Nat → Value) × (Nat → Nat × Nat)
def gN (Γ : ex_G) : Nat := Γ.1
def gD (Γ : ex_G) : va_G := Γ.2.1
def gT (Γ : ex_G) : Nat → ClassId := Γ.2.2.1
def gA (Γ : ex_G) : List (Nat × Nat × Nat × (Nat → Int32)) := Γ.2.2.2.1
def gV (Γ : ex_G) : Nat → Value := Γ.2.2.2.2.1
def gS (Γ : ex_G) : Nat → Nat × Nat := Γ.2.2.2.2.2
/-- a cell: an array of ints (its type's number, its length), an array of references, an object (its class's number) -/
abbrev ex_E : Type := (Nat × Nat × (Nat → Int32)) ⊕ (Nat × Nat × (Nat → Option Nat)) ⊕ (Nat × List Value)
/-- a store: the heap's size, the cells by address -/
abbrev ex_S : Type := Nat × (Nat → Option ex_E)
abbrev ex_L : Type := List (Option Value)
def ex_c (Γ : ex_G) (e : ex_E) : va_E := match e with
  | .inl (t, n, f) => .inl (gT Γ t, n, .inl f)
  | .inr (.inl (t, n, f)) => .inl (gT Γ t, n, .inr (.inr (.inr (.inr f))))
  | .inr (.inr o) => .inr o
def ex_tl : List FieldType := [.int, .byte, .boolean, .object "SchoolDoors$School", .object "SchoolDoors$Plan", .object "SchoolDoors$Lesson", .object "SchoolDoors$State"]
def ex_tys (Γ : ex_G) : List (ClassId × FieldType) := [(gT Γ 0, .int), (gT Γ 1, .byte), (gT Γ 2, .boolean), (gT Γ 3, .object "SchoolDoors$School"), (gT Γ 4, .object "SchoolDoors$Plan"), (gT Γ 5, .object "SchoolDoors$Lesson"), (gT Γ 6, .object "SchoolDoors$State")]
def ex_A (Γ : ex_G) : Nat → Prop := fun q => gN Γ ≤ q
/-- the heap holds the store -/
def ex_M (Γ : ex_G) (σ : ex_S) (H : Heap) : Prop := H.size = σ.1 ∧ gN Γ ≤ σ.1 ∧ ∀ a e, σ.2 a = some e → gN Γ ≤ a ∧ va_at (gD Γ) pg_cl (a, ex_c Γ e) H
def ex_tx : List (Nat × String) := [(77, "learner couple perhaps teacher above below crowd size rooms cost fee weeks rise tell long "), (79, "even two broad long pairs sits ")]
/-- what a method's start gives of classes, statics and texts -/
def ex_I (Γ : ex_G) (U : State) : Prop := va_K (gD Γ) pg_cl (ex_tys Γ) U ∧ gN Γ ≤ U.heap.size ∧
  (∀ a t n f, (a, t, n, f) ∈ gA Γ → ∃ ty, ex_tl[t]? = some ty ∧ va_T ty a n (fun j => .int (f j)) (ex_A Γ) U U.heap) ∧
  (∀ g q, ex_sn[g]? = some q → va_Z q.1 q.2.1 q.2.2 (gV Γ g) (ex_A Γ) U U.heap) ∧
  (∀ j q, ex_tx[j]? = some q → va_O "java/lang/String" (gS Γ j).1 (ex_A Γ) U U.heap ∧ va_OF "java/lang/String" "coder" "B" (.int 0) (gS Γ j).1 (ex_A Γ) U U.heap ∧ va_OF "java/lang/String" "value" "[B" (.ref (gS Γ j).2) (gS Γ j).1 (ex_A Γ) U U.heap ∧ vk_R "SchoolDoors$Reader" q.1 q.2 (gS Γ j).1 U) ∧
  (∀ a i y h, Cond.methodLinkNest a i y h ∈ lw_tbl → va_Nw (.methodLinkNest a i y h) U) ∧ (∀ a i b n d h, Cond.fieldLinkNest a i b n d h ∈ lw_tbl → va_Nw (.fieldLinkNest a i b n d h) U) ∧ (∀ C, Cond.arrayOver (.object C) ∈ lw_tbl → va_AO C U)
theorem ex_I.at {Γ : ex_G} {s U : State} (h : ex_I Γ s) (hW : s.WarmedH U.vm) {H : Heap} {locs : List Loc} (hS : va_S (ex_A Γ) s.heap H locs) (hH : U.heap = H) : ex_I Γ U := by
  obtain ⟨h1, h2, h3, h4, h5, h6, h7, h8⟩ := h
  have hk : ∀ a : Nat, a < s.heap.size → ¬ ex_A Γ a → U.heap[a]? = s.heap[a]? := fun a ha hn => by rw [hH]; exact hS.2.1 a ha hn
  refine ⟨va_K.moved hW.alike h1, Nat.le_trans h2 (by rw [hH]; exact hS.1), fun a t n f ha => ?_, fun g q hq => ((h4 g q hq).moved hW.alike).kept hk, fun j q hq => ?_, fun a i y h q => (h6 a i y h q).warmM hW, fun a i b n d h q => (h7 a i b n d h q).warmF hW, fun C q => (h8 C q).moved hW.alike⟩
  · obtain ⟨ty, e1, e2⟩ := h3 a t n f ha
    exact ⟨ty, e1, (e2.moved hW.alike).kept hk⟩
  · obtain ⟨e1, e2, e3, e4⟩ := h5 j q hq
    exact ⟨(e1.moved hW.alike).kept hk, (e2.moved hW.alike).kept hk, (e3.moved hW.alike).kept hk, e4.warm hW⟩
theorem ex_I.blind {Γ : ex_G} {U V : State} (h : ex_I Γ U) (hv : V.vm = U.vm) (hh : V.heap = U.heap) : ex_I Γ V := by
  obtain ⟨h1, h2, h3, h4, h5, h6, h7, h8⟩ := h
  have ha : U.vm.Alike V.vm := by rw [hv]; exact Vm.Alike.refl _
  have hk : ∀ a : Nat, a < U.heap.size → ¬ ex_A Γ a → V.heap[a]? = U.heap[a]? := fun a _ _ => by rw [hh]
  refine ⟨va_K.moved ha h1, by rw [hh]; exact h2, fun a t n f hq => ?_, fun g q hq => ((h4 g q hq).moved ha).kept hk, fun j q hq => ?_, fun a i y h q => (h6 a i y h q).same rfl hv.symm, fun a i b n d h q => (h7 a i b n d h q).same rfl hv.symm, fun C q => (h8 C q).moved ha⟩
  · obtain ⟨ty, e1, e2⟩ := h3 a t n f hq
    exact ⟨ty, e1, (e2.moved ha).kept hk⟩
  · obtain ⟨e1, e2, e3, e4⟩ := h5 j q hq
    exact ⟨(e1.moved ha).kept hk, (e2.moved ha).kept hk, (e3.moved ha).kept hk, e4.same hv⟩
/-! locals -/
def ex_lv : Nat → ex_L → List (Nat × Value)
  | _, [] => []
  | k, none :: r => ex_lv (k + 1) r
  | k, some v :: r => (k, v) :: ex_lv (k + 1) r
theorem ex_lv_mem : ∀ (L : ex_L) (k i : Nat) (v : Value), (i, v) ∈ ex_lv k L ↔ k ≤ i ∧ L[i - k]? = some (some v) := by
  intro L
  induction L with
  | nil => intro k i v; simp [ex_lv]
  | cons x r ih =>
    intro k i v
    by_cases hik : i = k
    · subst hik
      cases x with
      | none => simp [ex_lv, ih]; omega
      | some w => simp [ex_lv, ih]; constructor
                  · rintro (h | ⟨h, -⟩)
                    · exact h.symm
                    · omega
                  · intro h; exact Or.inl h.symm
    · by_cases hlt : k < i
      · obtain ⟨d, rfl⟩ : ∃ d, i = k + 1 + d := ⟨i - k - 1, by omega⟩
        have e1 : k + 1 + d - k = d + 1 := by omega
        have e2 : k + 1 + d - (k + 1) = d := by omega
        cases x with
        | none => simp [ex_lv, ih, e1, e2]; omega
        | some w =>
          simp only [ex_lv, List.mem_cons, Prod.mk.injEq, ih, e1, e2, List.getElem?_cons_succ]
          constructor
          · rintro (⟨h, -⟩ | ⟨-, h⟩)
            · omega
            · exact ⟨by omega, h⟩
          · rintro ⟨-, h⟩
            exact Or.inr ⟨by omega, h⟩
      · cases x with
        | none => simp [ex_lv, ih]; omega
        | some w => simp [ex_lv, ih]; omega
def ex_Lo (ls : Array Slot) (L : ex_L) : Prop := lv_has ls L.length (ex_lv 0 L)
theorem ex_Lo.at {ls : Array Slot} {L : ex_L} (h : ex_Lo ls L) {i : Nat} {v : Value} (hi : L[i]? = some (some v)) : ls[i]? = some (.val v) :=
  h.2.2 (i, v) ((ex_lv_mem L 0 i v).mpr ⟨Nat.zero_le _, by simpa using hi⟩)
/-- the place ahead of i holds no long -/
def ex_n2 (L : ex_L) (i : Nat) : Bool := match i with
  | 0 => true
  | k + 1 => match L[k]? with
    | some (some v) => v.category == 1
    | _ => true
theorem ex_Lo.set {ls' : Array Slot} {L : ex_L} {i : Nat} {v : Value} (hn : ex_n2 L i = true) (h : lv_has ls' L.length ((i, v) :: (ex_lv 0 L).filter (fun q => !(q.1 == i) && !(q.1 + 1 == i && q.2.category == 2)))) : ex_Lo ls' (L.set i (some v)) := by
  refine ⟨by rw [List.length_set]; exact h.1, h.2.1, fun q hq => ?_⟩
  obtain ⟨j, w⟩ := q
  have hj := ((ex_lv_mem _ 0 j w).mp hq).2
  simp only [Nat.sub_zero] at hj
  by_cases hji : j = i
  · subst hji
    rw [List.getElem?_set] at hj
    simp only [if_true] at hj
    split at hj
    · cases hj
      exact h.2.2 _ List.mem_cons_self
    · cases hj
  · rw [List.getElem?_set_ne (fun e => hji e.symm)] at hj
    refine h.2.2 _ (List.mem_cons_of_mem _ (List.mem_filter.mpr ⟨(ex_lv_mem L 0 j w).mpr ⟨Nat.zero_le _, by simpa using hj⟩, ?_⟩))
    have h1 : (j == i) = false := by simpa using hji
    simp only [h1, Bool.not_false, Bool.true_and, Bool.not_eq_true', Bool.and_eq_false_iff]
    by_cases h2 : j + 1 = i
    · subst h2
      simp only [ex_n2, hj] at hn
      right
      have : w.category = 1 := by simpa using hn
      simp [this]
    · left
      simpa using h2
theorem ex_Lo.set2 {ls' : Array Slot} {L : ex_L} {i : Nat} {v : Value} (hn : ex_n2 L i = true) (h : lv_has ls' L.length ((i, v) :: (ex_lv 0 L).filter (fun q => !(q.1 == i) && (!(q.1 == i + 1) && !(q.1 + 1 == i && q.2.category == 2))))) : ex_Lo ls' ((L.set i (some v)).set (i + 1) none) := by
  refine ⟨by rw [List.length_set, List.length_set]; exact h.1, h.2.1, fun q hq => ?_⟩
  obtain ⟨j, w⟩ := q
  have hj := ((ex_lv_mem _ 0 j w).mp hq).2
  simp only [Nat.sub_zero] at hj
  have hj1 : j ≠ i + 1 := by
    intro e
    subst e
    rw [List.getElem?_set] at hj
    simp only [if_true] at hj
    split at hj <;> cases hj
  rw [List.getElem?_set_ne (fun e => hj1 e.symm)] at hj
  by_cases hji : j = i
  · subst hji
    rw [List.getElem?_set] at hj
    simp only [if_true] at hj
    split at hj
    · cases hj
      exact h.2.2 _ List.mem_cons_self
    · cases hj
  · rw [List.getElem?_set_ne (fun e => hji e.symm)] at hj
    refine h.2.2 _ (List.mem_cons_of_mem _ (List.mem_filter.mpr ⟨(ex_lv_mem L 0 j w).mpr ⟨Nat.zero_le _, by simpa using hj⟩, ?_⟩))
    have h1 : (j == i) = false := by simpa using hji
    have h3 : (j == i + 1) = false := by simpa using hj1
    simp only [h1, h3, Bool.not_false, Bool.true_and, Bool.not_eq_true', Bool.and_eq_false_iff]
    by_cases h2 : j + 1 = i
    · subst h2
      simp only [ex_n2, hj] at hn
      right
      have : w.category = 1 := by simpa using hn
      simp [this]
    · left
      simpa using h2
/-- the locals with which a method of n begins -/
def ex_L0 : List Value → Nat → ex_L
  | [], n => List.replicate n none
  | v :: r, n => if v.category = 2 then some v :: none :: ex_L0 r (n - 2) else some v :: ex_L0 r (n - 1)
theorem ex_L0_len : ∀ (as : List Value) (n : Nat), (lg_sl as).length ≤ n → (ex_L0 as n).length = n := by
  intro as
  induction as with
  | nil => intro n _; simp [ex_L0]
  | cons v r ih =>
    intro n h
    by_cases hc : v.category = 2
    · have h1 : (lg_sl (v :: r)).length = (lg_sl r).length + 2 := by simp [lg_sl, hc]
      simp only [ex_L0, hc, if_true, List.length_cons]
      rw [ih (n - 2) (by omega)]
      omega
    · have h1 : (lg_sl (v :: r)).length = (lg_sl r).length + 1 := by simp [lg_sl, hc]
      simp only [ex_L0, hc, if_false, List.length_cons]
      rw [ih (n - 1) (by omega)]
      omega
theorem ex_lv_none : ∀ (n k : Nat), ex_lv k (List.replicate n none) = [] := by
  intro n
  induction n with
  | zero => intro k; rfl
  | succ n ih => intro k; rw [List.replicate_succ]; exact ih (k + 1)
theorem ex_L0_lv : ∀ (as : List Value) (n k : Nat), ex_lv k (ex_L0 as n) = lv_args k as := by
  intro as
  induction as with
  | nil => intro n k; simp [ex_L0, lv_args, ex_lv_none]
  | cons v r ih =>
    intro n k
    by_cases hc : v.category = 2
    · simp only [ex_L0, lv_args, hc, if_true, ex_lv]
      rw [ih]
    · simp only [ex_L0, lv_args, hc, if_false, ex_lv]
      rw [ih]
theorem ex_Lo.entry {as : List Value} {n : Nat} (h : (lg_sl as).length ≤ n) : ex_Lo ((lg_sl as ++ List.replicate (n - (lg_sl as).length) Slot.unset).toArray) (ex_L0 as n) := by
  unfold ex_Lo
  rw [ex_L0_len as n h, ex_L0_lv as n 0]
  exact lv_entry as h
end
