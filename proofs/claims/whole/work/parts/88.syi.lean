/-! The row of a school (class): by steps, and by number among equals. -/
noncomputable section
/-- of those below N, how many -/
def cn (p : Nat → Prop) : Nat → Nat
  | 0 => 0
  | N + 1 => cn p N + @ite _ (p N) (Classical.propDecidable _) 1 0
theorem cn_y {p : Nat → Prop} {N : Nat} (h : p N) : cn p (N + 1) = cn p N + 1 := by
  show cn p N + _ = cn p N + 1
  rw [if_pos h]
theorem cn_n {p : Nat → Prop} {N : Nat} (h : ¬ p N) : cn p (N + 1) = cn p N := by
  show cn p N + _ = cn p N
  rw [if_neg h]
  rfl
theorem cn_congr {p q : Nat → Prop} : ∀ N, (∀ l, l < N → (p l ↔ q l)) → cn p N = cn q N := by
  intro N
  induction N with
  | zero => intro _; rfl
  | succ N ih =>
    intro h
    have h1 := ih (fun l hl => h l (by omega))
    by_cases c : p N
    · rw [cn_y c, cn_y ((h N (by omega)).mp c), h1]
    · rw [cn_n c, cn_n (fun d => c ((h N (by omega)).mpr d)), h1]
theorem cn_le {p : Nat → Prop} : ∀ N, cn p N ≤ N := by
  intro N
  induction N with
  | zero => exact Nat.le_refl _
  | succ N ih =>
    by_cases c : p N
    · rw [cn_y c]; omega
    · rw [cn_n c]; omega
theorem cn_all {p : Nat → Prop} : ∀ N, (∀ l, l < N → p l) → cn p N = N := by
  intro N
  induction N with
  | zero => intro _; rfl
  | succ N ih => intro h; rw [cn_y (h N (by omega)), ih (fun l hl => h l (by omega))]
theorem cn_none {p : Nat → Prop} : ∀ N, (∀ l, l < N → ¬ p l) → cn p N = 0 := by
  intro N
  induction N with
  | zero => intro _; rfl
  | succ N ih => intro h; rw [cn_n (h N (by omega)), ih (fun l hl => h l (by omega))]
theorem cn_step {p q : Nat → Prop} {i : Nat} (hp : ¬ p i) (hq : q i) (h : ∀ l, l ≠ i → (p l ↔ q l)) : ∀ N, i < N → cn q N = cn p N + 1 := by
  intro N
  induction N with
  | zero => intro h; omega
  | succ N ih =>
    intro hi
    by_cases e : i = N
    · subst e
      rw [cn_y hq, cn_n hp, cn_congr i (fun l hl => (h l (by omega)).symm)]
    · by_cases c : p N
      · rw [cn_y c, cn_y ((h N (by omega)).mp c), ih (by omega)]
      · rw [cn_n c, cn_n (fun d => c ((h N (by omega)).mpr d)), ih (by omega)]
/-- a learner's step; his place among all -/
def stp (S : Sch) (l : Nat) : Nat := (S.2.2 0 l).toNatClampNeg
def key (S : Sch) (l : Nat) : Nat := 16 * stp S l + l
theorem stp_eq {S : Sch} (hw : wS S) {l : Nat} (hl : l < S.1) : S.2.2 0 l = nI (stp S l) ∧ stp S l ≤ 11 := by
  obtain ⟨n, h1, h2⟩ := rg_n (hw.2.2.1 l hl).1 (by decide) (b := 11) (by decide)
  unfold stp
  rw [h2, nI_clamp (by omega)]
  exact ⟨rfl, h1⟩
/-- a row of the first m places: who lies there, sorted, all of P and no others -/
def sorted (S : Sch) (P : Nat → Prop) (c : Nat) (f : Nat → Int32) : Prop :=
  ∃ ρ : Nat → Nat, (∀ k, k < c → f k = nI (ρ k) ∧ ρ k < S.1 ∧ P (ρ k)) ∧ (∀ a b, a < b → b < c → key S (ρ a) < key S (ρ b)) ∧ ∀ l, l < S.1 → P l → ∃ k, k < c ∧ ρ k = l
theorem sorted_congr {S : Sch} {P Q : Nat → Prop} {c : Nat} {f : Nat → Int32} (h : ∀ l, l < S.1 → (P l ↔ Q l)) (hs : sorted S P c f) : sorted S Q c f := by
  obtain ⟨ρ, h1, h2, h3⟩ := hs
  exact ⟨ρ, fun k hk => ⟨(h1 k hk).1, (h1 k hk).2.1, (h _ (h1 k hk).2.1).mp (h1 k hk).2.2⟩, h2, fun l hl hq => h3 l hl ((h l hl).mpr hq)⟩
/-- one more behind all -/
theorem sorted_add {S : Sch} {P : Nat → Prop} {c i : Nat} {f : Nat → Int32} (hi : i < S.1) (hs : sorted S P c f) (hk : ∀ l, l < S.1 → P l → key S l < key S i) : sorted S (fun l => P l ∨ l = i) (c + 1) (upd f c (nI i)) := by
  obtain ⟨ρ, h1, h2, h3⟩ := hs
  refine ⟨fun k => if k = c then i else ρ k, fun k hk' => ?_, fun a b hab hb => ?_, fun l hl hp => ?_⟩
  · by_cases e : k = c
    · subst e
      dsimp only
      rw [if_pos rfl, pk_us]
      exact ⟨rfl, hi, Or.inr rfl⟩
    · dsimp only
      rw [if_neg e, pk_un e]
      obtain ⟨a, b, d⟩ := h1 k (by omega)
      exact ⟨a, b, Or.inl d⟩
  · have ea : ¬ a = c := by omega
    dsimp only
    rw [if_neg ea]
    by_cases e : b = c
    · rw [if_pos e]
      obtain ⟨-, u, v⟩ := h1 a (by omega)
      exact hk _ u v
    · rw [if_neg e]
      exact h2 a b hab (by omega)
  · rcases hp with hp | hp
    · obtain ⟨k, a, b⟩ := h3 l hl hp
      exact ⟨k, by omega, (if_neg (by omega)).trans b⟩
    · exact ⟨c, by omega, (if_pos rfl).trans hp.symm⟩
theorem putRow_sem {S : Sch} {ro : Nat → Int32} (hw : wS S) : (K_putRow S ro).1 = S.1 ∧ sorted S (fun _ => True) S.1 (K_putRow S ro).2 := by
  have h16 := hw.1
  have inner : ∀ (st : Nat) (zz z : Nat × (Nat → Int32)), st < 12 → z.1 = cn (fun l => stp S l < st) S.1 → sorted S (fun l => stp S l < st) z.1 z.2 → ∃ z' : Nat × (Nat → Int32), Sum.elim (fun (zx : Nat × (Nat → Int32)) => (zx.1, zx.2)) (fun (rx : Nat × (Nat → Int32)) => (rx.1, rx.2)) (fe (F_putRow_15 S ro st zz) S.1 0 (z.1, z.2)) = z' ∧ z'.1 = cn (fun l => stp S l < st + 1) S.1 ∧ sorted S (fun l => stp S l < st + 1) z'.1 z'.2 := by
    intro st zz z hst hz1 hz2
    have h := fe_inv (F := F_putRow_15 S ro st zz) (fun i z => z.1 = cn (fun l => stp S l < st ∨ (stp S l = st ∧ l < i)) S.1 ∧ sorted S (fun l => stp S l < st ∨ (stp S l = st ∧ l < i)) z.1 z.2) (fun z' => z'.1 = cn (fun l => stp S l < st + 1) S.1 ∧ sorted S (fun l => stp S l < st + 1) z'.1 z'.2) S.1 0 (z.1, z.2) ⟨by rw [hz1]; exact cn_congr _ (fun l _ => by omega), sorted_congr (fun l _ => by omega) hz2⟩ (fun i z _ hi hz => by
      obtain ⟨z1, z2⟩ := hz
      have hi : i < S.1 := by omega
      obtain ⟨e1, e2⟩ := stp_eq hw hi
      have hle := @cn_le (fun l => stp S l < st ∨ (stp S l = st ∧ l < i)) S.1
      have hlt : nI z.1 < (16 : Int32) ↔ z.1 < 16 := nI_lt_iff (b := 16) (by omega) (by omega)
      have heq : ((S.2.2 0) i = nI st) ↔ stp S i = st := by
        have e1' : (S.2.2 0) i = nI (stp S i) := e1
        rw [e1']
        exact ⟨fun h => nI_injL (by omega) (by omega) h, fun h => by rw [h]⟩
      have hno : ¬ stp S i = st → (∀ l, l < S.1 → ((stp S l < st ∨ (stp S l = st ∧ l < i)) ↔ (stp S l < st ∨ (stp S l = st ∧ l < i + 1)))) := fun c l _ => by
        constructor
        · rintro (a | a)
          · exact Or.inl a
          · exact Or.inr ⟨a.1, by omega⟩
        · rintro (a | ⟨a, b⟩)
          · exact Or.inl a
          · refine Or.inr ⟨a, ?_⟩
            have : l ≠ i := fun e => c (by rw [← e]; exact a)
            omega
      unfold F_putRow_15
      by_cases c : z.1 < 16
      · rw [if_pos (hlt.mpr c)]
        by_cases d : stp S i = st
        · rw [if_pos (heq.mpr d)]
          refine ⟨fun z' hz' => ?_, fun r hr => (by cases hr)⟩
          cases hz'
          have hiff : ∀ l, ((stp S l < st ∨ (stp S l = st ∧ l < i)) ∨ l = i) ↔ (stp S l < st ∨ (stp S l = st ∧ l < i + 1)) := fun l => by
            constructor
            · rintro ((a | a) | a)
              · exact Or.inl a
              · exact Or.inr ⟨a.1, by omega⟩
              · subst a; exact Or.inr ⟨d, by omega⟩
            · rintro (a | ⟨a, b⟩)
              · exact Or.inl (Or.inl a)
              · by_cases e : l = i
                · exact Or.inr e
                · exact Or.inl (Or.inr ⟨a, by omega⟩)
          refine ⟨?_, sorted_congr (fun l _ => hiff l) (sorted_add hi z2 (fun l hl hp => ?_))⟩
          · show z.1 + 1 = _
            rw [z1]
            refine (cn_step (i := i) (fun h => by omega) (Or.inr ⟨d, by omega⟩) (fun l hl => ?_) S.1 hi).symm
            omega
          · unfold key
            omega
        · rw [if_neg (fun h => d (heq.mp h))]
          refine ⟨fun z' hz' => ?_, fun r hr => (by cases hr)⟩
          cases hz'
          refine ⟨?_, sorted_congr (hno d) z2⟩
          show z.1 = _
          rw [z1]
          exact cn_congr _ (hno d)
      · rw [if_neg (fun h => c (hlt.mp h))]
        refine ⟨fun z' hz' => (by cases hz'), fun r hr => ?_⟩
        cases hr
        have hall : ∀ l, l < S.1 → (stp S l < st ∨ (stp S l = st ∧ l < i) ↔ stp S l < st + 1) := fun l hl => by
          constructor
          · intro h; omega
          · intro h
            refine Classical.byContradiction (fun g => ?_)
            have h1 := cn_step (p := fun l => stp S l < st ∨ (stp S l = st ∧ l < i)) (q := fun x => (stp S x < st ∨ (stp S x = st ∧ x < i)) ∨ x = l) (i := l) g (Or.inr rfl) (fun x hx => ⟨Or.inl, fun h => h.resolve_right hx⟩) S.1 hl
            have h2 := @cn_le (fun x => (stp S x < st ∨ (stp S x = st ∧ x < i)) ∨ x = l) S.1
            omega
        refine ⟨?_, sorted_congr hall z2⟩
        show z.1 = _
        rw [z1]
        exact cn_congr _ hall)
    rw [Nat.zero_add] at h
    generalize fe (F_putRow_15 S ro st zz) S.1 0 (z.1, z.2) = s at h ⊢
    rcases s with a | a
    · obtain ⟨q1, q2⟩ := h.1 a rfl
      have hall : ∀ l, l < S.1 → (stp S l < st ∨ (stp S l = st ∧ l < S.1) ↔ stp S l < st + 1) := fun l hl => by omega
      exact ⟨_, rfl, q1.trans (cn_congr _ hall), sorted_congr hall q2⟩
    · exact ⟨_, rfl, h.2 a rfl⟩
  have h := fo_inv (F := F_putRow_7 S ro) (fun st z => st ≤ 12 → z.1 = cn (fun l => stp S l < st) S.1 ∧ sorted S (fun l => stp S l < st) z.1 z.2) 12 0 (0, ro) (fun _ => ⟨(cn_none _ (fun l _ => by omega)).symm, fun k => k, fun k hk => absurd hk (Nat.not_lt_zero _), fun a b _ hb => absurd hb (Nat.not_lt_zero _), fun l _ h => by omega⟩) (fun j z _ hj hz hle => by
    obtain ⟨z1, z2⟩ := hz (by omega)
    obtain ⟨z', a, b⟩ := inner j z z (by omega) z1 z2
    unfold F_putRow_7
    rw [a]
    exact b)
  obtain ⟨a, b⟩ := h (Nat.le_refl _)
  have e : cn (fun l => stp S l < 12) S.1 = S.1 := cn_all _ (fun l hl => by have := (stp_eq hw hl).2; omega)
  have a' : (K_putRow S ro).1 = S.1 := a.trans e
  refine ⟨a', ?_⟩
  have b' : sorted S (fun l => stp S l < 12) (K_putRow S ro).1 (K_putRow S ro).2 := b
  rw [a'] at b'
  exact sorted_congr (fun l hl => ⟨fun _ => trivial, fun _ => by have := (stp_eq hw hl).2; omega⟩) b'
end
