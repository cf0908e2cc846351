/-! The class: a school and a class of a plan, and the methods that only read them. -/
noncomputable section
/-- a school: learners, teachers, its arrays (steps, evenings, prices, partners, chances, teachers' evenings, breadths, gains, stays, rules) -/
abbrev Sch : Type := Nat × Nat × (Nat → Nat → Int32)
/-- a class of a plan: kind, teacher, evening, step, second step, who sits -/
abbrev Les : Type := Nat → Int32
def isL (σ : ex_S) (c : Nat) (C : Les) : Prop := σ.2 c = some (.inr (.inr (4, [.int (C 0), .int (C 1), .int (C 2), .int (C 3), .int (C 4), .int (C 5)])))
def isS (σ : ex_S) (a : Nat) (S : Sch) : Prop :=
  σ.2 a = some (.inr (.inr (2, [.int (nI S.1), .ref (a + 1), .ref (a + 2), .ref (a + 3), .ref (a + 4), .ref (a + 5), .int (nI S.2.1), .ref (a + 6), .ref (a + 7), .ref (a + 8), .ref (a + 9), .ref (a + 10)]))) ∧
  σ.2 (a + 1) = some (.inl (0, 17, S.2.2 0)) ∧ σ.2 (a + 2) = some (.inl (0, 16, S.2.2 1)) ∧ σ.2 (a + 3) = some (.inl (0, 16, S.2.2 2)) ∧ σ.2 (a + 4) = some (.inl (0, 16, S.2.2 3)) ∧ σ.2 (a + 5) = some (.inl (0, 16, S.2.2 4)) ∧ σ.2 (a + 6) = some (.inl (0, 5, S.2.2 5)) ∧ σ.2 (a + 7) = some (.inl (0, 5, S.2.2 6)) ∧ σ.2 (a + 8) = some (.inl (0, 7, S.2.2 7)) ∧ σ.2 (a + 9) = some (.inl (0, 7, S.2.2 8)) ∧ σ.2 (a + 10) = some (.inl (0, 11, S.2.2 9))
def K_base (S : Sch) (step own : Int32) : Int32 := if step - own < -3 then 0 else if 3 < step - own then 0 else S.2.2 7 (step - own + 3).toNatClampNeg
theorem in7 {x : Int32} (h1 : ¬ x < -3) (h2 : ¬ 3 < x) : vp_in (x + 3) 7 := by
  rw [vp_in_iff]
  rw [Int32.lt_iff_toInt_lt] at h1 h2
  have e1 : (-3 : Int32).toInt = -3 := by decide
  have e2 : (3 : Int32).toInt = 3 := by decide
  rw [e1] at h1
  rw [e2] at h2
  rw [Int32.toInt_add, e2, Int.bmod_eq_of_le (by omega) (by omega)]
  omega
def kB (b : Bool) : Int32 := if b then 1 else 0
def K_stay (S : Sch) (step own : Int32) : Int32 := if step - own < -3 then 0 else if 3 < step - own then 0 else S.2.2 8 (step - own + 3).toNatClampNeg
def K_has (S : Sch) (x : Int32) : Int32 := if x < 0 then 0 else if nI S.1 ≤ x then 0 else 1
def K_hasT (S : Sch) (x : Int32) : Int32 := if x < 0 then 0 else if nI S.2.1 ≤ x then 0 else 1
def K_nearer (S : Sch) (step own t : Int32) : Int32 := if step - own ≤ S.2.2 6 t.toNatClampNeg then (if - S.2.2 6 t.toNatClampNeg ≤ step - own then own else step + S.2.2 6 t.toNatClampNeg) else step - S.2.2 6 t.toNatClampNeg
def K_alone (S : Sch) (C : Les) (own : Int32) : Int32 :=
  if C 0 = 1 then (K_base S (C 3) own + K_base S (C 4) own) / 2 else if C 0 = 2 then K_base S (K_nearer S (C 3) own (C 1)) own else if C 0 = 3 then K_base S (C 3) own * S.2.2 9 10 / 100 else K_base S (C 3) own
def K_told (near own : Int32) : Int32 := ((near <<< ((1 : Int32) &&& 31) ||| near >>> ((1 : Int32) &&& 31)) >>> (own &&& 31)) &&& 1
def K_fitting (S : Sch) (C : Les) (own near : Int32) : Int32 := K_alone S C own + (if C 0 = 4 then (if K_told near own = 0 then 0 else S.2.2 9 9) else 0)
def K_max (x y : Int32) : Int32 := if x < y then y else x
def K_min (x y : Int32) : Int32 := if y < x then y else x
def K_part (S : Sch) (k : Int32) : Int32 := K_max 0 (100 - S.2.2 9 1 * K_max 0 (k - S.2.2 9 0))
def K_bit (w i : Int32) : Int32 := (w >>> (i &&& 31)) &&& 1
def K_all (S : Sch) : Int32 := (1 : Int32) <<< (nI S.1 &&& 31) - 1
def K_can (S : Sch) (C : Les) (l : Int32) : Int32 := if K_bit (S.2.2 1 l.toNatClampNeg) (C 2) = 0 then 0 else if S.2.2 2 l.toNatClampNeg < S.2.2 9 6 then 0 else 1
def K_teaches (S : Sch) (t e : Int32) : Int32 := if K_hasT S t = 0 then 0 else if K_bit (S.2.2 5 t.toNatClampNeg) e = 0 then 0 else 1
theorem kd_in {k n : Nat} (h : k < n) (hn : n < 100) : vp_in (nI k) n := vp_in_nI h (by omega)
theorem K_hasT_in {S : Sch} {x : Int32} (h : ¬ K_hasT S x = 0) (hn : S.2.1 ≤ 5) : vp_in x 5 := by
  unfold K_hasT at h
  split at h
  · exact absurd rfl h
  · split at h
    · exact absurd rfl h
    · rename_i h1 h2
      rw [vp_in_iff]
      rw [Int32.lt_iff_toInt_lt] at h1
      rw [Int32.le_iff_toInt_le, nI_toInt (by omega)] at h2
      have : (0 : Int32).toInt = 0 := by decide
      rw [this] at h1
      omega
section
variable {Γ : ex_G} {σ : ex_S} {a : Nat} {S : Sch}
theorem base_ok (hS : isS σ a S) (step own : Int32) : RetV Γ m_School_base [.ref a, .int step, .int own] σ (.int (K_base S step own)) := by
  obtain ⟨h0, h1, h2, h3, h4, h5, h6, h7, h8, h9, h10⟩ := id hS
  refine Ret.start pm_82 rfl ?_
  refine Ev.iload_n rfl rfl ?_
  refine Ev.iload_n rfl rfl ?_
  refine Ev.isub rfl ?_
  refine Ev.istore_n rfl rfl rfl ?_
  refine Ev.iload_n rfl rfl ?_
  refine Ev.bipush (v := (-3)) rfl (by decide) ?_
  refine Ev.icmp_lt (tgt := 26) rfl (by decide) (fun c7 => ?_) (fun c7 => ?_)
  · skip
    refine Ev.iconst (v := 0) rfl (by decide) ?_
    refine Ev.iret (ty := .int) rfl rfl rfl (Nat.le_refl _) (Nat.le_refl _) ?_
    exact ⟨by simp [K_base, *], rfl⟩
  · skip
    refine Ev.iload_n rfl rfl ?_
    refine Ev.iconst (v := 3) rfl (by decide) ?_
    refine Ev.icmp_gt (tgt := 26) rfl (by decide) (fun c12 => ?_) (fun c12 => ?_)
    · skip
      refine Ev.iconst (v := 0) rfl (by decide) ?_
      refine Ev.iret (ty := .int) rfl rfl rfl (Nat.le_refl _) (Nat.le_refl _) ?_
      exact ⟨by simp [K_base, *], rfl⟩
    · skip
      refine Ev.aload_n rfl rfl ?_
      refine Ev.getf rfl rfl (by assumption) rfl ?_
      refine Ev.iload_n rfl rfl ?_
      refine Ev.iconst (v := 3) rfl (by decide) ?_
      refine Ev.iadd rfl ?_
      refine Ev.iald rfl (by assumption) (in7 c7 c12) ?_
      refine Ev.goto (tgt := 27) rfl (by decide) ?_
      refine Ev.iret (ty := .int) rfl rfl rfl (Nat.le_refl _) (Nat.le_refl _) ?_
      exact ⟨by simp [K_base, *], rfl⟩
theorem stay_ok (hS : isS σ a S) (step own : Int32) : RetV Γ m_School_stay [.ref a, .int step, .int own] σ (.int (K_stay S step own)) := by
  obtain ⟨h0, h1, h2, h3, h4, h5, h6, h7, h8, h9, h10⟩ := id hS
  refine Ret.start pm_83 rfl ?_
  refine Ev.iload_n rfl rfl ?_
  refine Ev.iload_n rfl rfl ?_
  refine Ev.isub rfl ?_
  refine Ev.istore_n rfl rfl rfl ?_
  refine Ev.iload_n rfl rfl ?_
  refine Ev.bipush (v := (-3)) rfl (by decide) ?_
  refine Ev.icmp_lt (tgt := 26) rfl (by decide) (fun c7 => ?_) (fun c7 => ?_)
  · skip
    refine Ev.iconst (v := 0) rfl (by decide) ?_
    refine Ev.iret (ty := .int) rfl rfl rfl (Nat.le_refl _) (Nat.le_refl _) ?_
    exact ⟨by simp [K_stay, *], rfl⟩
  · skip
    refine Ev.iload_n rfl rfl ?_
    refine Ev.iconst (v := 3) rfl (by decide) ?_
    refine Ev.icmp_gt (tgt := 26) rfl (by decide) (fun c12 => ?_) (fun c12 => ?_)
    · skip
      refine Ev.iconst (v := 0) rfl (by decide) ?_
      refine Ev.iret (ty := .int) rfl rfl rfl (Nat.le_refl _) (Nat.le_refl _) ?_
      exact ⟨by simp [K_stay, *], rfl⟩
    · skip
      refine Ev.aload_n rfl rfl ?_
      refine Ev.getf rfl rfl (by assumption) rfl ?_
      refine Ev.iload_n rfl rfl ?_
      refine Ev.iconst (v := 3) rfl (by decide) ?_
      refine Ev.iadd rfl ?_
      refine Ev.iald rfl (by assumption) (in7 c7 c12) ?_
      refine Ev.goto (tgt := 27) rfl (by decide) ?_
      refine Ev.iret (ty := .int) rfl rfl rfl (Nat.le_refl _) (Nat.le_refl _) ?_
      exact ⟨by simp [K_stay, *], rfl⟩
theorem has_ok (hS : isS σ a S) (x : Int32) : RetV Γ m_School_has [.ref a, .int x] σ (.int (K_has S x)) := by
  obtain ⟨h0, h1, h2, h3, h4, h5, h6, h7, h8, h9, h10⟩ := id hS
  refine Ret.start pm_77 rfl ?_
  refine Ev.iload_n rfl rfl ?_
  refine Ev.if_lt (tgt := 16) rfl (by decide) (fun c1 => ?_) (fun c1 => ?_)
  · skip
    refine Ev.iconst (v := 0) rfl (by decide) ?_
    refine Ev.iret (ty := .boolean) rfl rfl rfl (Nat.le_refl _) (Nat.le_refl _) ?_
    exact ⟨by simp [K_has, *], rfl⟩
  · skip
    refine Ev.iload_n rfl rfl ?_
    refine Ev.aload_n rfl rfl ?_
    refine Ev.getf rfl rfl (by assumption) rfl ?_
    refine Ev.icmp_ge (tgt := 16) rfl (by decide) (fun c9 => ?_) (fun c9 => ?_)
    · skip
      refine Ev.iconst (v := 0) rfl (by decide) ?_
      refine Ev.iret (ty := .boolean) rfl rfl rfl (Nat.le_refl _) (Nat.le_refl _) ?_
      exact ⟨by simp [K_has, *], rfl⟩
    · skip
      refine Ev.iconst (v := 1) rfl (by decide) ?_
      refine Ev.goto (tgt := 17) rfl (by decide) ?_
      refine Ev.iret (ty := .boolean) rfl rfl rfl (Nat.le_refl _) (Nat.le_refl _) ?_
      exact ⟨by simp [K_has, *], rfl⟩
theorem hasT_ok (hS : isS σ a S) (x : Int32) : RetV Γ m_School_hasTeacher [.ref a, .int x] σ (.int (K_hasT S x)) := by
  obtain ⟨h0, h1, h2, h3, h4, h5, h6, h7, h8, h9, h10⟩ := id hS
  refine Ret.start pm_78 rfl ?_
  refine Ev.iload_n rfl rfl ?_
  refine Ev.if_lt (tgt := 16) rfl (by decide) (fun c1 => ?_) (fun c1 => ?_)
  · skip
    refine Ev.iconst (v := 0) rfl (by decide) ?_
    refine Ev.iret (ty := .boolean) rfl rfl rfl (Nat.le_refl _) (Nat.le_refl _) ?_
    exact ⟨by simp [K_hasT, *], rfl⟩
  · skip
    refine Ev.iload_n rfl rfl ?_
    refine Ev.aload_n rfl rfl ?_
    refine Ev.getf rfl rfl (by assumption) rfl ?_
    refine Ev.icmp_ge (tgt := 16) rfl (by decide) (fun c9 => ?_) (fun c9 => ?_)
    · skip
      refine Ev.iconst (v := 0) rfl (by decide) ?_
      refine Ev.iret (ty := .boolean) rfl rfl rfl (Nat.le_refl _) (Nat.le_refl _) ?_
      exact ⟨by simp [K_hasT, *], rfl⟩
    · skip
      refine Ev.iconst (v := 1) rfl (by decide) ?_
      refine Ev.goto (tgt := 17) rfl (by decide) ?_
      refine Ev.iret (ty := .boolean) rfl rfl rfl (Nat.le_refl _) (Nat.le_refl _) ?_
      exact ⟨by simp [K_hasT, *], rfl⟩
theorem teaches_ok (hS : isS σ a S) (t e : Int32) (hn : S.2.1 ≤ 5) : RetV Γ m_School_teaches [.ref a, .int t, .int e] σ (.int (K_teaches S t e)) := by
  obtain ⟨h0, h1, h2, h3, h4, h5, h6, h7, h8, h9, h10⟩ := id hS
  refine Ret.start pm_79 rfl ?_
  refine Ev.aload_n rfl rfl ?_
  refine Ev.iload_n rfl rfl ?_
  refine Ev.cV1 rfl rfl (by assumption) rfl rfl (by decide) ⟨(Nat.le_refl _), (Nat.le_refl _)⟩ (hasT_ok hS t) ?_
  refine Ev.if_eq (tgt := 25) rfl (by decide) (fun c5 => ?_) (fun c5 => ?_)
  · skip
    refine Ev.iconst (v := 0) rfl (by decide) ?_
    refine Ev.iret (ty := .boolean) rfl rfl rfl (Nat.le_refl _) (Nat.le_refl _) ?_
    exact ⟨by simp [K_teaches, K_bit, *], rfl⟩
  · skip
    refine Ev.aload_n rfl rfl ?_
    refine Ev.getf rfl rfl (by assumption) rfl ?_
    refine Ev.iload_n rfl rfl ?_
    refine Ev.iald rfl (by assumption) (K_hasT_in c5 hn) ?_
    refine Ev.iload_n rfl rfl ?_
    refine Ev.ishr rfl ?_
    refine Ev.iconst (v := 1) rfl (by decide) ?_
    refine Ev.iand rfl ?_
    refine Ev.if_eq (tgt := 25) rfl (by decide) (fun c18 => ?_) (fun c18 => ?_)
    · skip
      refine Ev.iconst (v := 0) rfl (by decide) ?_
      refine Ev.iret (ty := .boolean) rfl rfl rfl (Nat.le_refl _) (Nat.le_refl _) ?_
      exact ⟨by simp [K_teaches, K_bit, *], rfl⟩
    · skip
      refine Ev.iconst (v := 1) rfl (by decide) ?_
      refine Ev.goto (tgt := 26) rfl (by decide) ?_
      refine Ev.iret (ty := .boolean) rfl rfl rfl (Nat.le_refl _) (Nat.le_refl _) ?_
      exact ⟨by simp [K_teaches, K_bit, *], rfl⟩
theorem all_ok (hS : isS σ a S)  : RetV Γ m_School_all [.ref a] σ (.int (K_all S)) := by
  obtain ⟨h0, h1, h2, h3, h4, h5, h6, h7, h8, h9, h10⟩ := id hS
  refine Ret.start pm_80 rfl ?_
  refine Ev.iconst (v := 1) rfl (by decide) ?_
  refine Ev.aload_n rfl rfl ?_
  refine Ev.getf rfl rfl (by assumption) rfl ?_
  refine Ev.ishl rfl ?_
  refine Ev.iconst (v := 1) rfl (by decide) ?_
  refine Ev.isub rfl ?_
  refine Ev.iret (ty := .int) rfl rfl rfl (Nat.le_refl _) (Nat.le_refl _) ?_
  exact ⟨by simp [K_all, *], rfl⟩
theorem nearer_ok (hS : isS σ a S) (step own t : Int32) (ht : K_hasT S t = 1) (hn : S.2.1 ≤ 5) : RetV Γ m_School_nearer [.ref a, .int step, .int own, .int t] σ (.int (K_nearer S step own t)) := by
  obtain ⟨h0, h1, h2, h3, h4, h5, h6, h7, h8, h9, h10⟩ := id hS
  refine Ret.start pm_85 rfl ?_
  refine Ev.aload_n rfl rfl ?_
  refine Ev.iload_n rfl rfl ?_
  refine Ev.cV1 rfl rfl (by assumption) rfl rfl (by decide) ⟨(Nat.le_refl _), (Nat.le_refl _)⟩ (hasT_ok hS t) ?_
  refine Ev.if_eq (tgt := 17) rfl (by decide) (fun c5 => absurd c5 (by rw [ht]; decide)) (fun c5 => ?_)
  refine Ev.aload_n rfl rfl ?_
  refine Ev.getf rfl rfl (by assumption) rfl ?_
  refine Ev.iload_n rfl rfl ?_
  refine Ev.iald rfl (by assumption) (K_hasT_in c5 hn) ?_
  refine Ev.goto (tgt := 18) rfl (by decide) ?_
  refine Ev.istore rfl rfl rfl ?_
  refine Ev.iload_n rfl rfl ?_
  refine Ev.iload_n rfl rfl ?_
  refine Ev.isub rfl ?_
  refine Ev.istore rfl rfl rfl ?_
  refine Ev.iload rfl rfl ?_
  refine Ev.iload rfl rfl ?_
  refine Ev.icmp_le (tgt := 39) rfl (by decide) (fun c29 => ?_) (fun c29 => ?_)
  · skip
    refine Ev.iload rfl rfl ?_
    refine Ev.iload rfl rfl ?_
    refine Ev.ineg rfl ?_
    refine Ev.icmp_ge (tgt := 54) rfl (by decide) (fun c44 => ?_) (fun c44 => ?_)
    · skip
      refine Ev.iload_n rfl rfl ?_
      refine Ev.iret (ty := .int) rfl rfl rfl (Nat.le_refl _) (Nat.le_refl _) ?_
      exact ⟨by simp [K_nearer, *], rfl⟩
    · skip
      refine Ev.iload_n rfl rfl ?_
      refine Ev.iload rfl rfl ?_
      refine Ev.iadd rfl ?_
      refine Ev.goto (tgt := 55) rfl (by decide) ?_
      refine Ev.iret (ty := .int) rfl rfl rfl (Nat.le_refl _) (Nat.le_refl _) ?_
      exact ⟨by simp [K_nearer, *], rfl⟩
  · skip
    refine Ev.iload_n rfl rfl ?_
    refine Ev.iload rfl rfl ?_
    refine Ev.isub rfl ?_
    refine Ev.goto (tgt := 55) rfl (by decide) ?_
    refine Ev.iret (ty := .int) rfl rfl rfl (Nat.le_refl _) (Nat.le_refl _) ?_
    exact ⟨by simp [K_nearer, *], rfl⟩
theorem part_ok (hS : isS σ a S) (k : Int32) : RetV Γ m_School_part [.ref a, .int k] σ (.int (K_part S k)) := by
  obtain ⟨h0, h1, h2, h3, h4, h5, h6, h7, h8, h9, h10⟩ := id hS
  refine Ret.start pm_88 rfl ?_
  refine Ev.iconst (v := 0) rfl (by decide) ?_
  refine Ev.bipush (v := 100) rfl (by decide) ?_
  refine Ev.aload_n rfl rfl ?_
  refine Ev.getf rfl rfl (by assumption) rfl ?_
  refine Ev.iconst (v := 1) rfl (by decide) ?_
  refine Ev.ialdN (k := 1) rfl (by assumption) (by decide) ⟨(by decide), by decide⟩ ?_
  refine Ev.iconst (v := 0) rfl (by decide) ?_
  refine Ev.iload_n rfl rfl ?_
  refine Ev.aload_n rfl rfl ?_
  refine Ev.getf rfl rfl (by assumption) rfl ?_
  refine Ev.iconst (v := 0) rfl (by decide) ?_
  refine Ev.ialdN (k := 0) rfl (by assumption) (by decide) ⟨(by decide), by decide⟩ ?_
  refine Ev.isub rfl ?_
  refine Ev.mmax rfl rfl rfl (Nat.le_of_ble_eq_true rfl) ⟨(Nat.le_refl _), (Nat.le_refl _)⟩ ?_
  refine Ev.imul rfl ?_
  refine Ev.isub rfl ?_
  refine Ev.mmax rfl rfl rfl (Nat.le_of_ble_eq_true rfl) ⟨(Nat.le_refl _), (Nat.le_refl _)⟩ ?_
  refine Ev.iret (ty := .int) rfl rfl rfl (Nat.le_refl _) (Nat.le_refl _) ?_
  exact ⟨rfl, rfl⟩
end
end
