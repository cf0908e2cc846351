/-! The line of a school (reference): its tables, row by row. -/
noncomputable section
theorem upd_2 (A : Nat → Int32) (k : Nat) (u v : Int32) : upd (upd A k u) k v = upd A k v := by
  funext q
  by_cases e : q = k
  · subst e; rw [pk_us, pk_us]
  · rw [pk_un e, pk_un e, pk_un e]
theorem pick_congr {S : Sch} {L f lim : Nat} {w : Nat → Nat} {s0 s1 : Nat → Int} {c0 c1 : Nat → Nat} {s m z : Int32} (h : ∀ n, vld S L f n → s0 n = s1 n ∧ c0 n = c1 n) (hp : pick S L f w s0 c0 lim s m z) : pick S L f w s1 c1 lim s m z := by
  rcases hp with ⟨a, b, c⟩ | ⟨q, q1, q2, q3, q4, q5, q6, q7, q8⟩
  · exact Or.inl ⟨a, b, fun n hn hl => by rw [← (h n hn).1]; exact c n hn hl⟩
  · refine Or.inr ⟨q, q1, q2, ?_, ?_, ?_, q6, fun n hn hl h0 => ?_, fun n hn hl h0 => ?_⟩
    · rw [← (h q q1).1]; exact q3
    · rw [← (h q q1).1]; exact q4
    · rw [← (h q q1).2]; exact q5
    · rw [← (h n hn).1] at h0 ⊢
      rw [← (h q q1).1, ← (h q q1).2, ← (h n hn).2]
      exact q7 n hn hl h0
    · rw [← (h n hn).1] at h0 ⊢
      rw [← (h q q1).1, ← (h q q1).2, ← (h n hn).2]
      exact q8 n hn hl h0
theorem pick_all {S : Sch} {L f : Nat} {w : Nat → Nat} {s0 : Nat → Int} {c0 : Nat → Nat} {n : Nat} {s m z : Int32} (hn : ∀ n', vld S L f n' → n' < n) (hn16 : ∀ n', vld S L f n' → n' < 16) (h : pick S L f w s0 c0 n s m z) : pick S L f w s0 c0 16 s m z := by
  rcases h with ⟨a, b, c⟩ | ⟨k, k1, k2, k3, k4, k5, k6, k7, k8⟩
  · exact Or.inl ⟨a, b, fun n' hv _ => c n' hv (hn n' hv)⟩
  · exact Or.inr ⟨k, k1, hn16 k k1, k3, k4, k5, k6, fun n' hv _ h0 => k7 n' hv (hn n' hv) h0, k8⟩
/-- place f of row left, by the row before it -/
def Rv (S : Sch) (wv : Nat → Nat → Nat) (bs bm : Nat → Int32) (left f : Nat) (s m z : Int32) : Prop :=
  (f = S.1 → s = 0 ∧ m = 0) ∧ (f < S.1 → left = 0 → s = -1 ∧ m = 0) ∧ (f < S.1 → ∀ l', left = l' + 1 → pick S S.1 f (wv f) (fun n => bsI bs l' (f + n)) (fun n => bmN bm l' (f + n)) 16 s m z)
/-- the rows' bounds -/
def Rb (bs bm : Nat → Int32) (left f : Nat) : Prop := bm (17 * left + f) = nI (bmN bm left f) ∧ bmN bm left f ≤ left ∧ -1 ≤ bsI bs left f ∧ bsI bs left f ≤ 5049 * left
theorem cuts_in {S : Sch} {k0 k k' : Nat} {g va bs bm bz : Nat → Int32} {z z' : (Nat → Int32) × (Nat → Int32) × (Nat → Int32) × (Nat → Int32)} {wv : Nat → Nat → Nat} (hw : wS S) (hk' : k' ≤ S.1) (hk : 1 ≤ k) (hk6 : k ≤ 6)
    (hst : ∀ G f n, vld S S.1 f n → (K_m_stretch S f n G va).1 = nI (wv f n) ∧ wv f n ≤ 5049) (G bs1 bm1 bz1 : Nat → Int32) (hrow : ∀ f, f ≤ S.1 → Rb bs1 bm1 (k - 1) f) (h1 : (S.1 - k' = S.1 → bs1 (17 * k + (S.1 - k')) = 0) ∧ (S.1 - k' < S.1 → bs1 (17 * k + (S.1 - k')) = -1)) (h2 : bm1 (17 * k + (S.1 - k')) = 0) :
    ∃ G' s m zz, Sum.elim (fun (zx : (Nat → Int32) × (Nat → Int32) × (Nat → Int32) × (Nat → Int32)) => (zx.1, zx.2.1, zx.2.2.1, zx.2.2.2)) (fun (rx : (Nat → Int32) × (Nat → Int32) × (Nat → Int32) × (Nat → Int32)) => (rx.1, rx.2.1, rx.2.2.1, rx.2.2.2)) (fe (F_m_cuts_78 S k0 g va bs bm bz k z k' z') (((S.2.2 9 3).toNatClampNeg + 1) - ((S.2.2 9 2).toNatClampNeg)) ((S.2.2 9 2).toNatClampNeg) (G, bs1, bm1, bz1)) = (G', upd bs1 (17 * k + (S.1 - k')) s, upd bm1 (17 * k + (S.1 - k')) m, upd bz1 (17 * k + (S.1 - k')) zz) ∧ Rv S wv bs1 bm1 k (S.1 - k') s m zz := by
  have h16 := hw.1
  obtain ⟨hle, hle1, hle2⟩ := le_cl hw
  obtain ⟨hmo, hmo1, hmo2, hlm⟩ := mo_cl hw
  have ef : S.1 + 1 - 1 - k' = S.1 - k' := by omega
  generalize hf : S.1 - k' = f at h1 h2 ⊢
  have hfl : f ≤ S.1 := by omega
  obtain ⟨l', rfl⟩ : ∃ l', k = l' + 1 := ⟨k - 1, by omega⟩
  rw [show l' + 1 - 1 = l' from rfl] at hrow
  have ha0 : ∀ n, 17 * (l' + 1) + f - 17 + n = 17 * l' + (f + n) := fun n => by omega
  have hv16 : ∀ n', vld S S.1 f n' → n' < 16 := fun n' h => by have := h.2.1; omega
  have h := fe_inv (F := F_m_cuts_78 S k0 g va bs bm bz (l' + 1) z k' z') (fun n st => ∃ s m zz, st.2.1 = upd bs1 (17 * (l' + 1) + f) s ∧ st.2.2.1 = upd bm1 (17 * (l' + 1) + f) m ∧ st.2.2.2 = upd bz1 (17 * (l' + 1) + f) zz ∧ (f = S.1 → s = 0 ∧ m = 0) ∧ (f < S.1 → pick S S.1 f (wv f) (fun n => bsI bs1 l' (f + n)) (fun n => bmN bm1 l' (f + n)) n s m zz))
    (fun st => ∃ s m zz, st.2.1 = upd bs1 (17 * (l' + 1) + f) s ∧ st.2.2.1 = upd bm1 (17 * (l' + 1) + f) m ∧ st.2.2.2 = upd bz1 (17 * (l' + 1) + f) zz ∧ Rv S wv bs1 bm1 (l' + 1) f s m zz)
    (((S.2.2 9 3).toNatClampNeg + 1) - ((S.2.2 9 2).toNatClampNeg)) ((S.2.2 9 2).toNatClampNeg) (G, bs1, bm1, bz1)
    ⟨bs1 (17 * (l' + 1) + f), bm1 (17 * (l' + 1) + f), bz1 (17 * (l' + 1) + f), (upd_same _ _).symm, (upd_same _ _).symm, (upd_same _ _).symm, fun e => ⟨h1.1 e, h2⟩, fun e => Or.inl ⟨h1.2 e, h2, fun n hv hl => by have := hv.1; omega⟩⟩ (fun n st hn1 hn2 hst' => by
      obtain ⟨s, m, zz, q1, q2, q3, q4, q5⟩ := hst'
      have hlt : nI S.1 < nI (S.1 + 1 - 1 - k') + nI n ↔ S.1 < f + n := by rw [ef, hf, nI_add]; exact nI_lt_iff (by omega) (by omega)
      unfold F_m_cuts_78
      by_cases c : S.1 < f + n
      · rw [if_pos (hlt.mpr c)]
        refine ⟨fun z' e => (by cases e), fun r e => ?_⟩
        cases e
        refine ⟨s, m, zz, q1, q2, q3, q4, fun e1 e2 => by omega, fun e1 l e2 => ?_⟩
        obtain rfl : l' = l := by omega
        exact pick_all (fun n' hv => by have := hv.2.2; omega) hv16 (q5 e1)
      · rw [if_neg (fun h => c (hlt.mp h)), ef, hf]
        have hv : vld S S.1 f n := ⟨hn1, by omega, by omega⟩
        have hfL : f < S.1 := by omega
        rw [q1, q2, q3]
        have hbnd := fun n (hv : vld S S.1 f n) => hrow (f + n) hv.2.2
        obtain ⟨G', s', m', z1, e1, e2⟩ := lcut_step (S := S) (a0 := 17 * (l' + 1) + f) (f := f) (n := n) (L := S.1) (g := st.1) (va := va) (bs := upd bs1 (17 * (l' + 1) + f) s) (bm := upd bm1 (17 * (l' + 1) + f) m) (bz := upd bz1 (17 * (l' + 1) + f) zz) (w := wv f) (s0 := fun n => bsI bs1 l' (f + n)) (c0 := fun n => bmN bm1 l' (f + n)) hv h16 (hst _ f n hv).1 (fun n hv => (hst G f n hv).2)
          (by rw [ha0, pk_un (by omega)]; rfl) (fun n hv => ⟨(hbnd n hv).2.2.1, by have := (hbnd n hv).2.2.2; omega⟩) (by rw [ha0, pk_un (by omega)]; exact (hbnd n hv).1) (fun n hv => by have := (hbnd n hv).2.1; omega) (by rw [pk_us, pk_us, pk_us]; exact q5 hfL)
        rw [e1]
        refine ⟨fun z' e => ?_, fun r e => (by cases e)⟩
        cases e
        exact ⟨s', m', z1, upd_2 _ _ _ _, upd_2 _ _ _ _, upd_2 _ _ _ _, fun e => by omega, fun _ => e2⟩)
  generalize fe (F_m_cuts_78 S k0 g va bs bm bz (l' + 1) z k' z') (((S.2.2 9 3).toNatClampNeg + 1) - ((S.2.2 9 2).toNatClampNeg)) ((S.2.2 9 2).toNatClampNeg) (G, bs1, bm1, bz1) = u at h ⊢
  rcases u with ⟨a1, a2, a3, a4⟩ | ⟨a1, a2, a3, a4⟩
  · obtain ⟨s, m, zz, q1, q2, q3, q4, q5⟩ := h.1 _ rfl
    refine ⟨a1, s, m, zz, ?_, q4, fun e1 e2 => by omega, fun e1 l e2 => ?_⟩
    · show (a1, a2, a3, a4) = _
      rw [show a2 = _ from q1, show a3 = _ from q2, show a4 = _ from q3]
    · obtain rfl : l' = l := by omega
      exact pick_all (fun n' hv => by have := hv.1; have := hv.2.1; omega) hv16 (q5 e1)
  · obtain ⟨s, m, zz, q1, q2, q3, q4⟩ := h.2 _ rfl
    refine ⟨a1, s, m, zz, ?_, q4⟩
    show (a1, a2, a3, a4) = _
    rw [show a2 = _ from q1, show a3 = _ from q2, show a4 = _ from q3]
theorem cuts_row {S : Sch} {k0 k k' : Nat} {g va bs bm bz : Nat → Int32} {z z' : (Nat → Int32) × (Nat → Int32) × (Nat → Int32) × (Nat → Int32)} {wv : Nat → Nat → Nat} (hw : wS S) (hk' : k' ≤ S.1) (hk6 : k ≤ 6)
    (hst : ∀ G f n, vld S S.1 f n → (K_m_stretch S f n G va).1 = nI (wv f n) ∧ wv f n ≤ 5049) (hrow : 1 ≤ k → ∀ f, f ≤ S.1 → Rb z'.2.1 z'.2.2.1 (k - 1) f) :
    ∃ G' s m zz, F_m_cuts_19 S k0 g va bs bm bz k z k' z' = (G', upd z'.2.1 (17 * k + (S.1 - k')) s, upd z'.2.2.1 (17 * k + (S.1 - k')) m, upd z'.2.2.2 (17 * k + (S.1 - k')) zz) ∧ Rv S wv z'.2.1 z'.2.2.1 k (S.1 - k') s m zz := by
  have h16 := hw.1
  have ef : S.1 + 1 - 1 - k' = S.1 - k' := by omega
  have heq : nI (S.1 - k') = nI S.1 ↔ S.1 - k' = S.1 := ⟨fun h => nI_injL (by omega) (by omega) h, fun h => by rw [h]⟩
  have hpos : (0 : Int32) < nI k ↔ 0 < k := nI_lt_iff (a := 0) (by omega) (by omega)
  have key : ∀ v : Int32, ((S.1 - k' = S.1 → v = 0) ∧ (S.1 - k' < S.1 → v = -1)) → 0 < k → ∃ G' s m zz, Sum.elim (fun (zx : (Nat → Int32) × (Nat → Int32) × (Nat → Int32) × (Nat → Int32)) => (zx.1, zx.2.1, zx.2.2.1, zx.2.2.2)) (fun (rx : (Nat → Int32) × (Nat → Int32) × (Nat → Int32) × (Nat → Int32)) => (rx.1, rx.2.1, rx.2.2.1, rx.2.2.2)) (fe (F_m_cuts_78 S k0 g va bs bm bz k z k' z') (((S.2.2 9 3).toNatClampNeg + 1) - ((S.2.2 9 2).toNatClampNeg)) ((S.2.2 9 2).toNatClampNeg) (z'.1, upd z'.2.1 (17 * k + (S.1 - k')) v, upd z'.2.2.1 (17 * k + (S.1 - k')) (0 : Int32), upd z'.2.2.2 (17 * k + (S.1 - k')) (0 : Int32))) = (G', upd z'.2.1 (17 * k + (S.1 - k')) s, upd z'.2.2.1 (17 * k + (S.1 - k')) m, upd z'.2.2.2 (17 * k + (S.1 - k')) zz) ∧ Rv S wv z'.2.1 z'.2.2.1 k (S.1 - k') s m zz := by
    intro v hv hk
    have hne : ∀ f, f ≤ S.1 → 17 * (k - 1) + f ≠ 17 * k + (S.1 - k') := fun f hf => by omega
    obtain ⟨G', s, m, zz, e1, e2⟩ := cuts_in (k0 := k0) (g := g) (bs := bs) (bm := bm) (bz := bz) (z := z) (z' := z') (wv := wv) hw hk' hk hk6 hst z'.1 (upd z'.2.1 (17 * k + (S.1 - k')) v) (upd z'.2.2.1 (17 * k + (S.1 - k')) 0) (upd z'.2.2.2 (17 * k + (S.1 - k')) 0) (fun f hf => by
      have := hrow hk f hf
      unfold Rb bmN bsI at this ⊢
      rw [pk_un (hne f hf), pk_un (hne f hf)]
      exact this) (by rw [pk_us]; exact hv) pk_us
    rw [e1, upd_2, upd_2, upd_2]
    refine ⟨G', s, m, zz, rfl, e2.1, e2.2.1, fun h1 l' h2 => ?_⟩
    have h3 := e2.2.2 h1 l' h2
    have hcg : ∀ n, vld S S.1 (S.1 - k') n → bsI (upd z'.2.1 (17 * k + (S.1 - k')) v) l' (S.1 - k' + n) = bsI z'.2.1 l' (S.1 - k' + n) ∧ bmN (upd z'.2.2.1 (17 * k + (S.1 - k')) 0) l' (S.1 - k' + n) = bmN z'.2.2.1 l' (S.1 - k' + n) := fun n hn => by
      have h4 := hne (S.1 - k' + n) hn.2.2
      rw [h2, show l' + 1 - 1 = l' from rfl, ← h2] at h4
      unfold bsI bmN
      rw [pk_un h4, pk_un h4]
      exact ⟨rfl, rfl⟩
    exact pick_congr hcg h3
  unfold F_m_cuts_19
  rw [ef]
  by_cases c : S.1 - k' = S.1
  · rw [if_pos (heq.mpr c)]
    by_cases d : 0 < k
    · rw [if_pos (hpos.mpr d)]
      exact key 0 ⟨fun _ => rfl, fun h => by omega⟩ d
    · rw [if_neg (fun h => d (hpos.mp h))]
      exact ⟨_, _, _, _, rfl, fun _ => ⟨rfl, rfl⟩, fun h => by omega, fun h => by omega⟩
  · rw [if_neg (fun h => c (heq.mp h))]
    by_cases d : 0 < k
    · rw [if_pos (hpos.mpr d)]
      exact key (-1) ⟨fun h => absurd h c, fun _ => rfl⟩ d
    · rw [if_neg (fun h => d (hpos.mp h))]
      exact ⟨_, _, _, _, rfl, fun h => absurd h c, fun _ _ => ⟨rfl, rfl⟩, fun _ l' h => by omega⟩
end
