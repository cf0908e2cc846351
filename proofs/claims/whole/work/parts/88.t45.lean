/-! Texts: lines, as both sides read them. -/
noncomputable section
/-- how a reading stands: a token was wrong; the token's search begins at; the fault found first, its place -/
abbrev Rs : Type := Bool × Nat × Nat × Int32
def Rw (s : Rs) : Bool := s.1
def Re (s : Rs) : Nat := s.2.1
def Rf (s : Rs) : Nat := s.2.2.1
def Rp (s : Rs) : Int32 := s.2.2.2
/-- a fault is noted if there is none yet -/
def rnt (s : Rs) (k : Nat) (a : Nat) : Rs := if Rf s = 0 then (Rw s, Re s, k, nI a) else s
/-- one number is taken -/
def nst (U : Nat → Nat) (n : Nat) (good : Bool) (s : Rs) : Rs := if Rw s = true ∨ ¬ tK U n (Re s) = 1 then (true, Re s, Rf s, Rp s) else if good = true ∨ ¬ Rf s = 0 then (false, tE U n (Re s), Rf s, Rp s) else (false, tE U n (Re s), 2, nI (tS0 U n (Re s)))
/-- where it stands is in the text, and what was noted lies before the token -/
def Rok (U : Nat → Nat) (n : Nat) (s : Rs) : Prop := Re s ≤ n ∧ Rf s ≤ 4 ∧ (Rw s = false → ¬ Rf s = 0 → ∃ q, Rp s = nI q ∧ q < tS0 U n (Re s))
/-- the reference's row 'all' and numbers when the reading stands so -/
def MSt (U : Nat → Nat) (n : Nat) (A0 A g : Nat → Int32) (s : Rs) (ab : Bool) : Prop := (∀ i, i ≠ 3 → i ≠ 4 → A i = A0 i) ∧ A 3 = (if Rw s = true then 1 else nI (Rf s)) ∧ A 4 = (if Rw s = true then nI (tS0 U n (Re s)) else Rp s) ∧ crs U n g (Re s) ∧ g 2 = nI n ∧ g 8 = (if Rw s = true then 1 else 0) ∧ g 9 = (if ab = true then 1 else 0)
section
variable {U : Nat → Nat} {n : Nat}
theorem nst_w {good : Bool} {s : Rs} (h : Rw s = true ∨ ¬ tK U n (Re s) = 1) : nst U n good s = (true, Re s, Rf s, Rp s) := if_pos h
theorem nst_n {good : Bool} {s : Rs} (h : Rw s = false) (h1 : tK U n (Re s) = 1) : nst U n good s = if good = true ∨ ¬ Rf s = 0 then (false, tE U n (Re s), Rf s, Rp s) else (false, tE U n (Re s), 2, nI (tS0 U n (Re s))) := if_neg (fun c => by
  rcases c with c | c
  · rw [h] at c; cases c
  · exact c h1)
theorem nst_Rw {good : Bool} {s : Rs} : Rw (nst U n good s) = true ↔ (Rw s = true ∨ ¬ tK U n (Re s) = 1) := by
  unfold nst
  split
  · rename_i c
    exact ⟨fun _ => c, fun _ => rfl⟩
  · rename_i c
    split
    · exact ⟨fun h => (nomatch h), fun h => absurd h c⟩
    · exact ⟨fun h => (nomatch h), fun h => absurd h c⟩
theorem nst_Re {g g' : Bool} {s s' : Rs} (hw : Rw s = Rw s') (he : Re s = Re s') : Re (nst U n g s) = Re (nst U n g' s') ∧ Rw (nst U n g s) = Rw (nst U n g' s') := by
  unfold nst
  rw [hw, he]
  split
  · exact ⟨rfl, rfl⟩
  · split <;> split <;> exact ⟨rfl, rfl⟩
/-- goods that agree while there is no fault lead to the same -/
theorem nst_eq {g g' : Bool} {s s' : Rs} (e : s = s') (h : Rw s = false → tK U n (Re s) = 1 → Rf s = 0 → g = g') : nst U n g s = nst U n g' s' := by
  subst e
  unfold nst
  split
  · rfl
  · rename_i c
    by_cases f : Rf s = 0
    · have hw : Rw s = false := by
        cases hx : Rw s
        · rfl
        · exact absurd (Or.inl hx) c
      have hk : tK U n (Re s) = 1 := Classical.byContradiction (fun q => c (Or.inr q))
      rw [h hw hk f]
    · rw [if_pos (Or.inr f), if_pos (Or.inr f)]
theorem nst_ok {g : Bool} {s : Rs} (ht : txt U n) (h : Rok U n s) : Rok U n (nst U n g s) := by
  obtain ⟨h1, h2, h3⟩ := h
  unfold nst
  split
  · exact ⟨h1, h2, fun c => (nomatch c)⟩
  · rename_i c
    have hw : Rw s = false := by
      cases hx : Rw s
      · rfl
      · exact absurd (Or.inl hx) c
    have hk : tK U n (Re s) = 1 := Classical.byContradiction (fun q => c (Or.inr q))
    have a := (tE_le ht h1).2
    have b := tE_st ht h1 (by omega)
    split
    · refine ⟨a, h2, fun _ f => ?_⟩
      obtain ⟨q, q1, q2⟩ := h3 hw f
      exact ⟨q, q1, Nat.lt_trans q2 b⟩
    · exact ⟨a, by show 2 ≤ 4; omega, fun _ _ => ⟨_, rfl, b⟩⟩
/-- no fault behind a number: there was none before it, and it could be -/
theorem nst_f0 {g : Bool} {s : Rs} (hw : Rw (nst U n g s) = false) (hf : Rf (nst U n g s) = 0) : Rw s = false ∧ tK U n (Re s) = 1 ∧ Rf s = 0 ∧ g = true ∧ Re (nst U n g s) = tE U n (Re s) := by
  have c : ¬ (Rw s = true ∨ ¬ tK U n (Re s) = 1) := fun c => by rw [nst_Rw.mpr c] at hw; cases hw
  have hw0 : Rw s = false := by
    cases hx : Rw s
    · rfl
    · exact absurd (Or.inl hx) c
  have hk : tK U n (Re s) = 1 := Classical.byContradiction (fun q => c (Or.inr q))
  rw [nst_n hw0 hk] at hf ⊢
  by_cases d : g = true ∨ ¬ Rf s = 0
  · rw [if_pos d] at hf ⊢
    have hf : Rf s = 0 := hf
    rcases d with d | d
    · exact ⟨hw0, hk, hf, d, rfl⟩
    · exact absurd hf d
  · rw [if_neg d] at hf
    exact absurd (show 2 = 0 from hf) (by decide)
theorem nst_nw {g : Bool} {s : Rs} (hw : Rw (nst U n g s) = false) : Rw s = false ∧ tK U n (Re s) = 1 ∧ Re (nst U n g s) = tE U n (Re s) := by
  have c : ¬ (Rw s = true ∨ ¬ tK U n (Re s) = 1) := fun c => by rw [nst_Rw.mpr c] at hw; cases hw
  have hw0 : Rw s = false := by
    cases hx : Rw s
    · rfl
    · exact absurd (Or.inl hx) c
  have hk : tK U n (Re s) = 1 := Classical.byContradiction (fun q => c (Or.inr q))
  refine ⟨hw0, hk, ?_⟩
  rw [nst_n hw0 hk]
  split <;> rfl
/-- what a number's reading answers, and whether all numbers could be so far -/
def rvl (U : Nat → Nat) (n lo : Nat) (G : Nat → Bool) (s : Rs) : Nat := if Rw s = true ∨ ¬ tK U n (Re s) = 1 then lo else if G (tV U n (Re s)) = true then tV U n (Re s) else lo
def rab (U : Nat → Nat) (n : Nat) (G : Nat → Bool) (ab : Bool) (s : Rs) : Bool := if Rw s = true ∨ ¬ tK U n (Re s) = 1 then ab else ab && G (tV U n (Re s))
/-- a line's end is read -/
def rel (U : Nat → Nat) (n : Nat) (s : Rs) : Rs := if Rw s = false ∧ tK U n (Re s) = 2 then (false, tE U n (Re s), Rf s, Rp s) else (true, Re s, Rf s, Rp s)
theorem Rs_w {s : Rs} (h : Rw s = true) : s = (true, Re s, Rf s, Rp s) := by
  obtain ⟨a, b, c, d⟩ := s
  have h : a = true := h
  subst h
  rfl
theorem Rs_n {s : Rs} (h : Rw s = false) : s = (false, Re s, Rf s, Rp s) := by
  obtain ⟨a, b, c, d⟩ := s
  have h : a = false := h
  subst h
  rfl
theorem MSt_ends {A0 A g : Nat → Int32} {s : Rs} {ab : Bool} (h : MSt U n A0 A g s ab) : MSt U n A0 (upd (upd A 3 1) 4 (nI (tS0 U n (Re s)))) (upd g 8 1) (true, Re s, Rf s, Rp s) ab := by
  obtain ⟨h1, h2, h3, h4, h5, h6, h7⟩ := h
  refine ⟨fun i a b => (pk_un b).trans ((pk_un a).trans (h1 i a b)), (pk_un (by decide)).trans pk_us, pk_us, ⟨h4.1, h4.2.1, h4.2.2.1, h4.2.2.2.1, h4.2.2.2.2⟩, h5, rfl, h7⟩
theorem MSt_same {A0 A g : Nat → Int32} {s : Rs} {ab : Bool} (h : MSt U n A0 A g s ab) (hw : Rw s = true) : MSt U n A0 A g (true, Re s, Rf s, Rp s) ab := by
  rw [Rs_w hw] at h
  exact h
theorem MSt_also {A0 A g : Nat → Int32} {s : Rs} {ab : Bool} {k a : Nat} (h : MSt U n A0 A g s ab) (hw : Rw s = false) (hf : Rf s = 0) : MSt U n A0 (upd (upd A 3 (nI k)) 4 (nI a)) g (rnt s k a) ab := by
  obtain ⟨h1, h2, h3, h4, h5, h6, h7⟩ := h
  have e : rnt s k a = (false, Re s, k, nI a) := by
    unfold rnt
    rw [if_pos hf, hw]
  rw [e]
  rw [hw] at h6
  refine ⟨fun i a b => (pk_un b).trans ((pk_un a).trans (h1 i a b)), (pk_un (by decide)).trans pk_us, pk_us, h4, h5, h6, h7⟩
theorem MSt_also_n {A0 A g : Nat → Int32} {s : Rs} {ab : Bool} {k a : Nat} (h : MSt U n A0 A g s ab) (hf : Rw s = true ∨ ¬ Rf s = 0) : MSt U n A0 A g (rnt s k a) ab := by
  by_cases c : Rf s = 0
  · have hw : Rw s = true := hf.resolve_right (fun q => q c)
    have e : rnt s k a = (true, Re s, k, nI a) := by
      unfold rnt
      rw [if_pos c, hw]
    rw [e]
    rw [Rs_w hw] at h
    exact h
  · have e : rnt s k a = s := by
      unfold rnt
      rw [if_neg c]
    rw [e]
    exact h
/-- the next token is read -/
theorem MSt_adv {A0 A g g1 : Nat → Int32} {s : Rs} {ab : Bool} (h : MSt U n A0 A g s ab) (hw : Rw s = false) (hc : crs U n g1 (tE U n (Re s))) (hk : ∀ i, i < 3 ∨ 7 < i → g1 i = g i) : MSt U n A0 A g1 (false, tE U n (Re s), Rf s, Rp s) ab := by
  rw [Rs_n hw] at h
  obtain ⟨h1, h2, h3, h4, h5, h6, h7⟩ := h
  exact ⟨h1, h2, h3, hc, (hk 2 (by omega)).trans h5, (hk 8 (by omega)).trans h6, (hk 9 (by omega)).trans h7⟩
theorem MSt_ab {A0 A g : Nat → Int32} {s : Rs} {ab ab1 : Bool} {v : Int32} (h : MSt U n A0 A g s ab) (hv : v = if ab1 = true then 1 else 0) : MSt U n A0 A (upd g 9 v) s ab1 := by
  obtain ⟨h1, h2, h3, h4, h5, h6, h7⟩ := h
  exact ⟨h1, h2, h3, ⟨h4.1, h4.2.1, h4.2.2.1, h4.2.2.2.1, h4.2.2.2.2⟩, h5, h6, hv⟩
theorem nst_bad {s : Rs} (hw : Rw s = false) (hk : tK U n (Re s) = 1) : nst U n false s = (false, tE U n (Re s), Rf (rnt s 2 (tS0 U n (Re s))), Rp (rnt s 2 (tS0 U n (Re s)))) := by
  rw [nst_n hw hk]
  unfold rnt
  by_cases c : Rf s = 0
  · rw [if_neg (fun h => h.elim (fun h => (nomatch h)) (fun h => h c)), if_pos c]
    rfl
  · rw [if_pos (Or.inr c), if_neg c]
theorem nst_good {s : Rs} (hw : Rw s = false) (hk : tK U n (Re s) = 1) : nst U n true s = (false, tE U n (Re s), Rf s, Rp s) := by
  rw [nst_n hw hk, if_pos (Or.inl rfl)]
/-- a fault noted at a place: how the reading stands then -/
theorem rnt_w {s : Rs} {k a : Nat} : Rw (rnt s k a) = Rw s := by
  unfold rnt
  split <;> rfl
theorem rnt_e {s : Rs} {k a : Nat} : Re (rnt s k a) = Re s := by
  unfold rnt
  split <;> rfl
theorem rnt_f0 {s : Rs} {k a : Nat} (hk : 0 < k) : ¬ Rf (rnt s k a) = 0 := by
  unfold rnt
  split
  · show ¬ k = 0; omega
  · assumption
end
end
