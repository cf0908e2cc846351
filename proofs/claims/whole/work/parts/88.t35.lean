/-! Sitting beside: lists of those who sit there, what two are told together, tables as both sides fill them. -/
noncomputable section
theorem bclr_nI {s f : Nat} (hs : s < 65536) (hf : f < 16) : nI s &&& (((1 : Int32) <<< (nI f &&& 31)) ^^^ (-1 : Int32)) = nI (clr s f) := by
  rw [shl1_nI f (by omega)]
  exact msk_nI hs (Nat.pow_lt_pow_right (a := 2) (by decide) hf)
theorem sub1_nI {s f : Nat} (h : low s f) (hs : s < 65536) : nI s &&& (nI s - 1) = nI (clr s f) := by
  have h0 := low_pos h
  have e : nI s - 1 = nI (s - 1) := by
    have q := nI_pred (s - 1)
    rwa [show s - 1 + 1 = s by omega] at q
  rw [e, and_nI (by omega) (by omega), sub1_clr h]
theorem ntz_low {s : Nat} (h0 : 0 < s) (hs : s < 4096) : ∃ f, low s f ∧ K_ntz (nI s) = nI f ∧ f < 12 := by
  obtain ⟨a, b, -, h2, h3, -, h5⟩ := sp_of hs (by omega)
  have ha : a < 12 := tb_lt (s := s) (m := 12) hs h3
  refine ⟨a, ⟨h3, fun j hj => ?_⟩, h2, ha⟩
  by_cases c : s.testBit j = true
  · have := (h5 j (by omega) c).1
    omega
  · simpa using c
/-- how much is told between two -/
def tl (S : Sch) : Nat := (S.2.2 9 9).toNatClampNeg
theorem tl_cl {S : Sch} (hw : wS S) : S.2.2 9 9 = nI (tl S) ∧ tl S ≤ 99 := by
  obtain ⟨q, e, -, h2, -⟩ := hw.2.2.2.2.2.2.2.2.2.2.2.2.2.2.2.1.nat (by decide)
  unfold tl
  rw [e, nI_clamp (by omega)]
  exact ⟨rfl, by omega⟩
def near (S : Sch) (a b : Nat) : Prop := (S.2.2 0 a).toInt - (S.2.2 0 b).toInt = 1 ∨ (S.2.2 0 a).toInt - (S.2.2 0 b).toInt = -1
def nearN (S : Sch) (a b : Nat) : Nat := if (S.2.2 0 a).toInt - (S.2.2 0 b).toInt = 1 then 1 else if (S.2.2 0 a).toInt - (S.2.2 0 b).toInt = -1 then 1 else 0
def mateN (S : Sch) (a b : Nat) : Nat := if S.2.2 3 a = nI b then 2 else 0
def btv (S : Sch) (a b : Nat) : Nat := (nearN S a b + mateN S a b) * tl S
theorem tv_le {S : Sch} (hw : wS S) (a b : Nat) : btv S a b ≤ 297 := by
  have h := (tl_cl hw).2
  have h1 : nearN S a b ≤ 1 := by
    unfold nearN
    split
    · exact Nat.le_refl _
    · split <;> omega
  have h2 : mateN S a b ≤ 2 := by
    unfold mateN
    split <;> omega
  unfold btv
  exact Nat.le_trans (Nat.mul_le_mul (show nearN S a b + mateN S a b ≤ 3 by omega) h) (by decide)
theorem near_y {S : Sch} {a b : Nat} (h : near S a b) : nearN S a b = 1 := by
  unfold nearN
  unfold near at h
  split
  · rfl
  · rw [if_pos (by omega)]
theorem near_n {S : Sch} {a b : Nat} (h : ¬ near S a b) : nearN S a b = 0 := by
  unfold nearN
  unfold near at h
  rw [if_neg (fun c => h (Or.inl c)), if_neg (fun c => h (Or.inr c))]
theorem stp_rg {S : Sch} (hw : wS S) {a : Nat} (ha : a < S.1) : rg (S.2.2 0 a) 0 11 := (hw.2.2.1 a ha).1
theorem near_c {S : Sch} (hw : wS S) {a b : Nat} (ha : a < S.1) (hb : b < S.1) : ((if (0 : Int32) ≤ S.2.2 0 a - S.2.2 0 b then S.2.2 0 a - S.2.2 0 b else 0 - (S.2.2 0 a - S.2.2 0 b)) = 1) ↔ near S a b := by
  have h1 := stp_rg hw ha
  have h2 := stp_rg hw hb
  have e := sub_toInt h1 h2 (by decide) (by decide) (by decide) (by decide)
  have r : rg (S.2.2 0 a - S.2.2 0 b) (-11) 11 := by
    obtain ⟨a1, a2⟩ := h1
    obtain ⟨b1, b2⟩ := h2
    exact ⟨by omega, by omega⟩
  have e2 := sub_toInt (x := 0) (a := 0) (b := 0) ⟨by decide, by decide⟩ r (by decide) (by decide) (by decide) (by decide)
  have z : (0 : Int32).toInt = 0 := by decide
  have o : (1 : Int32).toInt = 1 := by decide
  unfold near
  rw [← Int32.toInt_inj, o]
  by_cases c : (0 : Int32) ≤ S.2.2 0 a - S.2.2 0 b
  · rw [if_pos c, e]
    rw [le_toInt, z, e] at c
    omega
  · rw [if_neg c, e2, z, e]
    rw [le_toInt, z, e] at c
    omega
theorem near_m {S : Sch} (hw : wS S) {a b : Nat} (ha : a < S.1) (hb : b < S.1) : (K_abs (S.2.2 0 a - S.2.2 0 b) = 1) ↔ near S a b := by
  rw [← near_c hw ha hb]
  unfold K_abs
  rw [show -(S.2.2 0 a - S.2.2 0 b) = 0 - (S.2.2 0 a - S.2.2 0 b) from (Int32.zero_sub _).symm]
theorem tv_c {S : Sch} (hw : wS S) {a b : Nat} {p q : Int32} {m k : Nat} (hp : p = nI m) (hq : q = nI k) (h1 : nearN S a b = m) (h2 : mateN S a b = k) : (p + q) * S.2.2 9 9 = nI (btv S a b) := by
  rw [hp, hq, nI_add, (tl_cl hw).1, pk_mul]
  unfold btv
  rw [h1, h2]
theorem mate_y {S : Sch} {a b : Nat} (h : S.2.2 3 a = nI b) : mateN S a b = 2 := if_pos h
theorem mate_n {S : Sch} {a b : Nat} (h : ¬ S.2.2 3 a = nI b) : mateN S a b = 0 := if_neg h
/-- the j-th of a set -/
def wh (m j : Nat) : Nat := ((List.range 17).find? (fun l => m.testBit l && bcn m l == j)).getD 0
theorem bcn_ne {m a b : Nat} (h : m.testBit a = true) (hab : a < b) : bcn m a < bcn m b := by
  have := bcn_s1 h
  have := bcn_le (m := m) (a := a + 1) b hab
  omega
theorem wh_at {m l : Nat} (hl : l < 17) (h : m.testBit l = true) : wh m (bcn m l) = l := by
  unfold wh
  cases e : (List.range 17).find? (fun k => m.testBit k && bcn m k == bcn m l) with
  | none =>
    rw [List.find?_eq_none] at e
    exact absurd (by simp [h] : (m.testBit l && bcn m l == bcn m l) = true) (e l (List.mem_range.mpr hl))
  | some k =>
    have q := List.find?_some e
    simp only [Bool.and_eq_true, beq_iff_eq] at q
    show k = l
    rcases Nat.lt_trichotomy k l with c | c | c
    · have := bcn_ne q.1 c; omega
    · exact c
    · have := bcn_ne h c; omega
theorem wh_of {m L j : Nat} (hL : L ≤ 17) (h : j < bcn m L) : m.testBit (wh m j) = true ∧ wh m j < L ∧ bcn m (wh m j) = j := by
  obtain ⟨l, h1, h2, h3⟩ := bcn_surj L h
  subst h3
  rw [wh_at (by omega) h2]
  exact ⟨h2, h1, rfl⟩
theorem wh_inj {m L i j : Nat} (hL : L ≤ 17) (hi : i < bcn m L) (hj : j < bcn m L) (h : wh m i = wh m j) : i = j := by
  rw [← (wh_of hL hi).2.2, h, (wh_of hL hj).2.2]
/-- a row holds those of the set below L -/
def lstd (m L : Nat) (f : Nat → Int32) : Prop := ∀ j, j < L → m.testBit j = true → f (bcn m j) = nI j
theorem lstd_0 {m : Nat} {f : Nat → Int32} : lstd m 0 f := fun _ h => absurd h (Nat.not_lt_zero _)
theorem lstd_y {m L : Nat} {f : Nat → Int32} (h : lstd m L f) : lstd m (L + 1) (upd f (bcn m L) (nI L)) := by
  intro j hj hb
  by_cases e : j = L
  · subst e
    exact pk_us
  · have := bcn_ne hb (show j < L by omega)
    rw [pk_un (by omega)]
    exact h j (by omega) hb
theorem lstd_n {m L : Nat} {f : Nat → Int32} (h : lstd m L f) (hb : ¬ m.testBit L = true) : lstd m (L + 1) f := by
  intro j hj hb2
  by_cases e : j = L
  · subst e
    exact absurd hb2 hb
  · exact h j (by omega) hb2
theorem lstd_at {m L : Nat} {f : Nat → Int32} (h : lstd m L f) (hL : L ≤ 17) {j : Nat} (hj : j < bcn m L) : f j = nI (wh m j) := by
  obtain ⟨h1, h2, h3⟩ := wh_of hL hj
  have := h _ h2 h1
  rwa [h3] at this
theorem bit_y {m k : Nat} (hm : m < 131072) (hk : k < 17) (h : ¬ (nI m >>> (nI k &&& 31)) &&& 1 = 0) : m.testBit k = true := by
  by_cases c : m.testBit k = true
  · exact c
  · exact absurd ((nbit hm hk).mpr (by simpa using c)) h
theorem bit_n {m k : Nat} (hm : m < 131072) (hk : k < 17) (h : (nI m >>> (nI k &&& 31)) &&& 1 = 0) : m.testBit k = false := (nbit hm hk).mp h
def enc (n w : Nat) : Int32 := if w = n then -1 else nI w
/-- a table's values -/
def vf (p : Nat → Int32) (s : Nat) : Nat := (p s).toNatClampNeg
def okV (p : Nat → Int32) (s : Nat) : Prop := p s = nI (vf p s) ∧ vf p s ≤ 297 * s
theorem okV_of {p : Nat → Int32} {s M : Nat} (h : p s = nI M) (hM : M ≤ 297 * s) (hs : s < 4096) : vf p s = M ∧ okV p s := by
  have e : vf p s = M := by
    unfold vf
    rw [h, nI_clamp (by omega)]
  exact ⟨e, by rw [e]; exact h, by rw [e]; exact hM⟩
theorem vf_0 {p : Nat → Int32} (h : p 0 = 0) : vf p 0 = 0 := by
  unfold vf
  rw [h]
  rfl
theorem okV_0 {p : Nat → Int32} (h : p 0 = 0) : okV p 0 := by
  unfold okV
  rw [vf_0 h, h]
  exact ⟨rfl, Nat.zero_le _⟩
theorem vf_c {p q : Nat → Int32} {s : Nat} (h : p s = q s) : vf p s = vf q s := by
  unfold vf
  rw [h]
theorem okV_c {p q : Nat → Int32} {s : Nat} (h : p s = q s) (ho : okV p s) : okV q s := by
  unfold okV
  rw [← vf_c h, ← h]
  exact ho
theorem bvl_le {n : Nat} {v : Nat → Nat → Nat} {p : Nat → Int32} {s f i : Nat} (hv : ∀ a b, v a b ≤ 297) (hf : low s f) (h : ∀ t, t < s → okV p t) : bvl n v (vf p) s f i ≤ 297 * s := by
  have h1 := clr_lt hf.1
  have h2 := clr_le (clr s f) i
  have h3 := (h _ h1).2
  have h4 := (h (clr (clr s f) i) (by omega)).2
  have h5 := hv f i
  unfold bvl
  split <;> omega
/-- the class's table up to k -/
def TabC (n : Nat) (v : Nat → Nat → Nat) (k : Nat) (p : Nat → Int32) : Prop := p 0 = 0 ∧ ∀ s, 0 < s → s < k → okV p s ∧ isB n v (vf p) s (vf p s)
/-- the reference's tables up to k -/
def TabR (n : Nat) (v : Nat → Nat → Nat) (k : Nat) (p w : Nat → Int32) : Prop := p 0 = 0 ∧ ∀ s, 0 < s → s < k → okV p s ∧ isB n v (vf p) s (vf p s) ∧ ∃ q, w s = enc n q ∧ LW n v (vf p) s q
theorem TabC.ok {n : Nat} {v : Nat → Nat → Nat} {k : Nat} {p : Nat → Int32} (h : TabC n v k p) {s : Nat} (hs : s < k) : okV p s := by
  rcases Nat.eq_zero_or_pos s with c | c
  · subst c
    exact okV_0 h.1
  · exact (h.2 s c hs).1
theorem TabR.ok {n : Nat} {v : Nat → Nat → Nat} {k : Nat} {p w : Nat → Int32} (h : TabR n v k p w) {s : Nat} (hs : s < k) : okV p s := by
  rcases Nat.eq_zero_or_pos s with c | c
  · subst c
    exact okV_0 h.1
  · exact (h.2 s c hs).1
theorem TabC.tb {n : Nat} {v : Nat → Nat → Nat} {k : Nat} {p : Nat → Int32} (h : TabC n v k p) : Tb n v (vf p) k := ⟨vf_0 h.1, fun s h0 hs => (h.2 s h0 hs).2⟩
theorem TabR.tb {n : Nat} {v : Nat → Nat → Nat} {k : Nat} {p w : Nat → Int32} (h : TabR n v k p w) : Tb n v (vf p) k := ⟨vf_0 h.1, fun s h0 hs => (h.2 s h0 hs).2.1⟩
theorem TabC_0 {n : Nat} {v : Nat → Nat → Nat} {p : Nat → Int32} (h : p 0 = 0) : TabC n v 1 p := ⟨h, fun s h0 h1 => by omega⟩
theorem TabR_0 {n : Nat} {v : Nat → Nat → Nat} {p w : Nat → Int32} (h : p 0 = 0) : TabR n v 1 p w := ⟨h, fun s h0 h1 => by omega⟩
theorem TabC_up {n : Nat} {v : Nat → Nat → Nat} {s M : Nat} {p : Nat → Int32} (h : TabC n v s p) (h0 : 0 < s) (hs : s < 4096) (hM : M ≤ 297 * s) (hb : isB n v (vf p) s M) : TabC n v (s + 1) (upd p s (nI M)) := by
  have ne : ∀ t, t < s → p t = upd p s (nI M) t := fun t ht => (pk_un (by omega)).symm
  refine ⟨(pk_un (by omega)).trans h.1, fun t t0 ht => ?_⟩
  by_cases e : t = s
  · subst e
    obtain ⟨e1, e2⟩ := okV_of (p := upd p t (nI M)) pk_us hM hs
    rw [e1]
    exact ⟨e2, isB_cg (fun q hq => vf_c (ne q hq)) hb⟩
  · obtain ⟨a, b⟩ := h.2 t t0 (by omega)
    rw [← vf_c (ne t (by omega))]
    exact ⟨okV_c (ne t (by omega)) a, isB_cg (fun q hq => vf_c (ne q (by omega))) b⟩
theorem TabR_up {n : Nat} {v : Nat → Nat → Nat} {s M q : Nat} {p w p' w' : Nat → Int32} (h : TabR n v s p w) (h0 : 0 < s) (hs : s < 4096) (hp : ∀ t, t ≠ s → p' t = p t ∧ w' t = w t) (hM : M ≤ 297 * s) (e : p' s = nI M) (e' : w' s = enc n q) (hb : isB n v (vf p) s M) (hq : ∃ f, low s f ∧ adm n s f q ∧ bvl n v (vf p) s f q = M ∧ ∀ i, i < q → adm n s f i → bvl n v (vf p) s f i ≠ M) : TabR n v (s + 1) p' w' := by
  have ne : ∀ t, t < s → p t = p' t := fun t ht => (hp t (by omega)).1.symm
  refine ⟨(hp 0 (by omega)).1.trans h.1, fun t t0 ht => ?_⟩
  by_cases c : t = s
  · subst c
    obtain ⟨e1, e2⟩ := okV_of e hM hs
    obtain ⟨f, f1, f2, f3, f4⟩ := hq
    have eb : ∀ i, bvl n v (vf p) t f i = bvl n v (vf p') t f i := fun i => bvl_cg f1 (fun u hu => vf_c (ne u hu))
    rw [e1]
    refine ⟨e2, isB_cg (fun u hu => vf_c (ne u hu)) hb, q, e', f, f1, f2, ?_, fun i hi ha => ?_⟩
    · rw [← eb, e1]; exact f3
    · rw [← eb, e1]; exact f4 i hi ha
  · obtain ⟨a, b, r, r1, r2⟩ := h.2 t t0 (by omega)
    rw [← vf_c (ne t (by omega)), (hp t c).2]
    exact ⟨okV_c (ne t (by omega)) a, isB_cg (fun u hu => vf_c (ne u (by omega))) b, r, r1, LW_cg (fun u hu => vf_c (ne u (by omega))) r2⟩
/-- the reference's inner loop: the most among those before i, and the first who gives it -/
def bst (n : Nat) (v : Nat → Nat → Nat) (B : Nat → Nat) (s f i : Nat) (P W : Int32) : Prop := (∀ j, j < i → adm n s f j → (bvl n v B s f j : Int) ≤ P.toInt) ∧ (P = -1 ∨ ∃ w, w < i ∧ adm n s f w ∧ P = nI (bvl n v B s f w) ∧ W = enc n w ∧ ∀ j, j < w → adm n s f j → bvl n v B s f j < bvl n v B s f w)
theorem bst_0 {n : Nat} {v : Nat → Nat → Nat} {B : Nat → Nat} {s f : Nat} {W : Int32} : bst n v B s f (f + 1) (-1) W :=
  ⟨fun j hj ha => by have := ha.1; omega, Or.inl rfl⟩
theorem bst_skip {n : Nat} {v : Nat → Nat → Nat} {B : Nat → Nat} {s f i : Nat} {P W : Int32} (h : bst n v B s f i P W) (hn : ¬ adm n s f i ∨ ¬ P < nI (bvl n v B s f i)) (hb : bvl n v B s f i < 2 ^ 31) : bst n v B s f (i + 1) P W := by
  obtain ⟨h1, h2⟩ := h
  refine ⟨fun j hj ha => ?_, h2.imp id (fun ⟨w, a, b⟩ => ⟨w, by omega, b⟩)⟩
  by_cases e : j = i
  · subst e
    rcases hn with c | c
    · exact absurd ha c
    · rw [lt_toInt, nI_toInt hb] at c
      omega
  · exact h1 j (by omega) ha
theorem bst_up {n : Nat} {v : Nat → Nat → Nat} {B : Nat → Nat} {s f i : Nat} {P W : Int32} (h : bst n v B s f i P W) (ha : adm n s f i) (hn : P < nI (bvl n v B s f i)) (hb : bvl n v B s f i < 2 ^ 31) : bst n v B s f (i + 1) (nI (bvl n v B s f i)) (enc n i) := by
  obtain ⟨h1, -⟩ := h
  rw [lt_toInt, nI_toInt hb] at hn
  refine ⟨fun j hj hj2 => ?_, Or.inr ⟨i, by omega, ha, rfl, rfl, fun j hj hj2 => ?_⟩⟩
  · rw [nI_toInt hb]
    by_cases e : j = i
    · subst e
      exact Int.le_refl _
    · have := h1 j (by omega) hj2
      omega
  · have := h1 j hj hj2
    omega
theorem bst_end {n : Nat} {v : Nat → Nat → Nat} {B : Nat → Nat} {s f : Nat} {P W : Int32} (h : bst n v B s f (n + 1) P W) (hf : low s f) (hfn : f < n) (hb : ∀ i, bvl n v B s f i < 2 ^ 31) : ∃ M q, P = nI M ∧ W = enc n q ∧ isB n v B s M ∧ M = bvl n v B s f q ∧ adm n s f q ∧ ∀ i, i < q → adm n s f i → bvl n v B s f i ≠ M := by
  obtain ⟨h1, h2⟩ := h
  have hn : adm n s f n := ⟨hfn, Or.inl rfl⟩
  rcases h2 with c | ⟨w, w1, w2, w3, w4, w5⟩
  · have := h1 n (by omega) hn
    rw [c, show (-1 : Int32).toInt = -1 by decide] at this
    omega
  · refine ⟨_, w, w3, w4, ⟨f, hf, fun i hi => ?_, w, w2, rfl⟩, rfl, w2, fun i hi ha => ?_⟩
    · have h0 : i < n + 1 := by
        rcases hi.2 with c | c <;> omega
      have := h1 i h0 hi
      rw [w3, nI_toInt (hb w)] at this
      omega
    · have := w5 i hi ha
      omega
/-- the class's inner loop -/
def cst (n : Nat) (v : Nat → Nat → Nat) (B : Nat → Nat) (s f j M : Nat) : Prop := bvl n v B s f n ≤ M ∧ (∀ i, i < j → f < i → i < n → s.testBit i = true → bvl n v B s f i ≤ M) ∧ (M = bvl n v B s f n ∨ ∃ i, i < j ∧ f < i ∧ i < n ∧ s.testBit i = true ∧ bvl n v B s f i = M)
theorem cst_0 {n : Nat} {v : Nat → Nat → Nat} {B : Nat → Nat} {s f : Nat} : cst n v B s f (f + 1) (bvl n v B s f n) := ⟨Nat.le_refl _, fun i h1 h2 => by omega, Or.inl rfl⟩
theorem cst_skip {n : Nat} {v : Nat → Nat → Nat} {B : Nat → Nat} {s f j M : Nat} (h : cst n v B s f j M) (hb : s.testBit j = false) : cst n v B s f (j + 1) M := by
  obtain ⟨h1, h2, h3⟩ := h
  refine ⟨h1, fun i a b c d => ?_, h3.imp id (fun ⟨i, a, b⟩ => ⟨i, by omega, b⟩)⟩
  by_cases e : i = j
  · subst e
    rw [hb] at d
    cases d
  · exact h2 i (by omega) b c d
theorem cst_up {n : Nat} {v : Nat → Nat → Nat} {B : Nat → Nat} {s f j M X : Nat} (h : cst n v B s f j M) (hb : s.testBit j = true) (hf : f < j) (hj : j < n) (hX : X = bvl n v B s f j) : cst n v B s f (j + 1) (max M X) := by
  subst hX
  obtain ⟨h1, h2, h3⟩ := h
  refine ⟨by omega, fun i a b c d => ?_, ?_⟩
  · by_cases e : i = j
    · subst e
      omega
    · have := h2 i (by omega) b c d
      omega
  · by_cases c : M ≤ bvl n v B s f j
    · exact Or.inr ⟨j, by omega, hf, hj, hb, by omega⟩
    · rw [show max M (bvl n v B s f j) = M by omega]
      exact h3.imp id (fun ⟨i, a, b⟩ => ⟨i, by omega, b⟩)
theorem cst_end {n : Nat} {v : Nat → Nat → Nat} {B : Nat → Nat} {s f j M : Nat} (h : cst n v B s f j M) (hj : n ≤ j) (hf : low s f) (hfn : f < n) : isB n v B s M := by
  obtain ⟨h1, h2, h3⟩ := h
  refine ⟨f, hf, fun i hi => ?_, ?_⟩
  · rcases hi with ⟨a, rfl | ⟨b, c⟩⟩
    · exact h1
    · exact h2 i (by omega) a b c
  · rcases h3 with c | ⟨i, -, a, b, c, d⟩
    · exact ⟨n, ⟨hfn, Or.inl rfl⟩, c.symm⟩
    · exact ⟨i, ⟨a, Or.inr ⟨b, c⟩⟩, d⟩
theorem cst_le {n : Nat} {v : Nat → Nat → Nat} {B : Nat → Nat} {s f j M K : Nat} (h : cst n v B s f j M) (hb : ∀ i, bvl n v B s f i ≤ K) : M ≤ K := by
  rcases h.2.2 with c | ⟨i, -, -, -, -, d⟩
  · rw [c]; exact hb n
  · rw [← d]; exact hb i
/-- the class's search for the one beside -/
def wst (n : Nat) (v : Nat → Nat → Nat) (B : Nat → Nat) (s f j : Nat) (b : Int32) : Prop := (b = -1 ∧ ∀ i, f < i → i < j → s.testBit i = true → bvl n v B s f i ≠ B s) ∨ ∃ w, f < w ∧ w < j ∧ w < n ∧ s.testBit w = true ∧ b = nI w ∧ bvl n v B s f w = B s ∧ ∀ i, f < i → i < w → s.testBit i = true → bvl n v B s f i ≠ B s
theorem wst_0 {n : Nat} {v : Nat → Nat → Nat} {B : Nat → Nat} {s f : Nat} : wst n v B s f (f + 1) (-1) := Or.inl ⟨rfl, fun i a b => by omega⟩
theorem wst_skip {n : Nat} {v : Nat → Nat → Nat} {B : Nat → Nat} {s f j : Nat} {b : Int32} (h : wst n v B s f j b) (hb : b = -1) (hc : s.testBit j = false ∨ bvl n v B s f j ≠ B s) (hn : n ≤ 100) : wst n v B s f (j + 1) b := by
  subst hb
  rcases h with ⟨-, h⟩ | ⟨w, -, -, hw, -, e, -⟩
  · refine Or.inl ⟨rfl, fun i a c d => ?_⟩
    by_cases e : i = j
    · subst e
      rcases hc with q | q
      · rw [q] at d; cases d
      · exact q
    · exact h i a (by omega) d
  · exact absurd e.symm (nI_m1 (by omega))
theorem wst_up {n : Nat} {v : Nat → Nat → Nat} {B : Nat → Nat} {s f j : Nat} {b : Int32} (h : wst n v B s f j b) (hb : b = -1) (hf : f < j) (hj : j < n) (hc : s.testBit j = true) (he : bvl n v B s f j = B s) (hn : n ≤ 100) : wst n v B s f (j + 1) (nI j) := by
  subst hb
  rcases h with ⟨-, h⟩ | ⟨w, -, -, hw, -, e, -⟩
  · exact Or.inr ⟨j, hf, by omega, hj, hc, rfl, he, fun i a c d => h i a c d⟩
  · exact absurd e.symm (nI_m1 (by omega))
theorem wst_end {n : Nat} {v : Nat → Nat → Nat} {B : Nat → Nat} {s f j : Nat} {b : Int32} (h : wst n v B s f j b) (hx : n ≤ j ∨ ¬ b = -1) (hB : isB n v B s (B s)) (hf : low s f) : (b = -1 ∧ LW n v B s n) ∨ ∃ w, b = nI w ∧ w < n ∧ f < w ∧ LW n v B s w := by
  rcases h with ⟨h1, h2⟩ | ⟨w, w1, w2, w3, w4, w5, w6, w7⟩
  · refine Or.inl ⟨h1, ?_⟩
    have hj : n ≤ j := hx.resolve_right (fun c => c h1)
    obtain ⟨f', hf', -, i, hi, e⟩ := hB
    have ef := low_uniq hf hf'
    subst ef
    rcases hi with ⟨a, rfl | ⟨b', c⟩⟩
    · refine ⟨f, hf, ⟨a, Or.inl rfl⟩, e, fun k hk ha => ?_⟩
      rcases ha with ⟨a1, a2 | ⟨a2, a3⟩⟩
      · omega
      · exact h2 k a1 (by omega) a3
    · exact absurd e (h2 i a (by omega) c)
  · refine Or.inr ⟨w, w5, w3, w1, f, hf, ⟨w1, Or.inr ⟨w3, w4⟩⟩, w6, fun k hk ha => ?_⟩
    rcases ha with ⟨a1, a2 | ⟨a2, a3⟩⟩
    · omega
    · exact w7 k a1 hk a3
/-- the class's walk along those who sit there -/
def pst (n : Nat) (v : Nat → Nat → Nat) (B : Nat → Nat) (F : Nat) (w : Nat → Nat) (i s : Nat) (ne : Nat → Int32) : Prop := s < 2 ^ n ∧ s ≤ F ∧ (∀ j, j < i → s.testBit j = false) ∧ ∀ p, p < n → (s.testBit p = false → ∃ q, Prt n v B F p q ∧ (q = n ∧ ne (w p) = -1 ∨ q < n ∧ ne (w p) = nI (w q))) ∧ (s.testBit p = true → ∀ q, Prt n v B s p q → Prt n v B F p q)
theorem pst_0 {n : Nat} {v : Nat → Nat → Nat} {B : Nat → Nat} {w : Nat → Nat} {ne : Nat → Int32} : pst n v B (2 ^ n - 1) w 0 (2 ^ n - 1) ne := by
  have hp := Nat.two_pow_pos n
  refine ⟨by omega, Nat.le_refl _, fun j h => absurd h (Nat.not_lt_zero _), fun p hp => ⟨fun c => ?_, fun _ q h => h⟩⟩
  rw [Nat.testBit_two_pow_sub_one] at c
  simp at c
  omega
theorem pst_skip {n : Nat} {v : Nat → Nat → Nat} {B : Nat → Nat} {F : Nat} {w : Nat → Nat} {i s : Nat} {ne : Nat → Int32} (h : pst n v B F w i s ne) (hb : s.testBit i = false) : pst n v B F w (i + 1) s ne := by
  obtain ⟨h1, h0, h2, h3⟩ := h
  refine ⟨h1, h0, fun j hj => ?_, h3⟩
  by_cases e : j = i
  · subst e; exact hb
  · exact h2 j (by omega)
theorem pst_low {n : Nat} {v : Nat → Nat → Nat} {B : Nat → Nat} {F : Nat} {w : Nat → Nat} {i s : Nat} {ne : Nat → Int32} (h : pst n v B F w i s ne) (hb : s.testBit i = true) : low s i := ⟨hb, h.2.2.1⟩
theorem pst_go {n : Nat} {v : Nat → Nat → Nat} {B : Nat → Nat} {F : Nat} {w : Nat → Nat} {i s q : Nat} {ne ne' : Nat → Int32} (h : pst n v B F w i s ne) (hi : i < n) (hb : s.testBit i = true) (hq : LW n v B s q) (hw : ∀ a b, a < n → b < n → w a = w b → a = b)
    (e1 : ∀ p, p < n → p ≠ i → p ≠ q → ne' (w p) = ne (w p)) (e2 : q = n ∧ ne' (w i) = -1 ∨ q < n ∧ ne' (w i) = nI (w q) ∧ ne' (w q) = nI (w i)) : pst n v B F w (i + 1) (bnx n s i q) ne' := by
  have hl := pst_low h hb
  obtain ⟨h1, h0, h2, h3⟩ := h
  have hlt := bnx_lt (n := n) (w := q) hl
  have tb : ∀ j, (bnx n s i q).testBit j = (s.testBit j && decide (i ≠ j) && decide (q ≠ j)) := fun j => bnx_tb h1
  refine ⟨by omega, by omega, fun j hj => ?_, fun p hp => ⟨fun c => ?_, fun c r hr => ?_⟩⟩
  · rw [tb]
    by_cases e : j = i
    · subst e; simp
    · rw [h2 j (by omega)]; rfl
  · by_cases ei : p = i
    · subst ei
      refine ⟨q, (h3 p hp).2 hb q (Prt_here hl hq), ?_⟩
      exact e2.imp id (fun ⟨a, b, _⟩ => ⟨a, b⟩)
    · by_cases eq : p = q
      · subst eq
        rcases e2 with ⟨a, -⟩ | ⟨a, b, d⟩
        · omega
        · have hbq : s.testBit p = true := by
            obtain ⟨f, hf, ha, -⟩ := hq
            rcases ha with ⟨-, x | ⟨-, x⟩⟩
            · omega
            · exact x
          exact ⟨i, (h3 p hp).2 hbq i (Prt_there hl hq a), Or.inr ⟨hi, d⟩⟩
      · rw [tb, (by simp; omega : decide (i ≠ p) = true), (by simp; omega : decide (q ≠ p) = true)] at c
        simp at c
        obtain ⟨r, r1, r2⟩ := (h3 p hp).1 c
        refine ⟨r, r1, ?_⟩
        rw [e1 p hp ei eq]
        exact r2
  · rw [tb, Bool.and_eq_true, Bool.and_eq_true] at c
    obtain ⟨⟨c1, c2⟩, c3⟩ := c
    simp at c2 c3
    exact (h3 p hp).2 c1 r (Prt_skip hl hq (by omega) (by omega) hr)
theorem pst_end {n : Nat} {v : Nat → Nat → Nat} {B : Nat → Nat} {F : Nat} {w : Nat → Nat} {i s : Nat} {ne : Nat → Int32} (h : pst n v B F w i s ne) (hi : n ≤ i) {p : Nat} (hp : p < n) : ∃ q, Prt n v B F p q ∧ (q = n ∧ ne (w p) = -1 ∨ q < n ∧ ne (w p) = nI (w q)) := (h.2.2.2 p hp).1 (h.2.2.1 p (by omega))
end
