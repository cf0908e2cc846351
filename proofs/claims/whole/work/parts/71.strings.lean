/-! The texts of the reader's words: how long, which letter. -/
noncomputable section
/-- a letter of a text, as charAt gives it -/
def chr (x : Int32) : Int32 := ((x &&& 255).toUInt32 % 65536).toInt32
section
variable {Γ : ex_G} {RC RS mi cells slots pc : Nat} {L : ex_L} {st : List Value} {σ : ex_S} {Q : Option Value → ex_S → Prop}
theorem Ev.cVS0 {idx z j : Nat} {q : Nat × String} {v : Value} (hi : pg_ins mi pc = some (.invokevirtual idx, 3)) (hk : (pg_lks.getD (pg_oi mi) []).lookup idx = some (0, z)) (hj : ex_tx[j]? = some q) (hcl : (pg_y z).cls = "java/lang/String") (hrm : ex_rm mi z = true) (hna : 0 = pg_na z) (hc : cells ≤ RC ∧ slots ≤ RS) (hR : RetV Γ z [.ref (gS Γ j).1] σ v) (h : Ev Γ RC RS mi cells slots (pc + 3) L (v :: st) σ Q) (hw : (st.map fun v => v.category).sum ≤ 8 := by exact Nat.le_of_ble_eq_true rfl) : Ev Γ RC RS mi cells slots pc L (.ref (gS Γ j).1 :: st) σ Q :=
  Ev.callVS (as := []) (st := st) hi hk hj hcl rfl hna hrm hw hc hR (fun r s1 q => by obtain ⟨rfl, rfl⟩ := q; exact h)
theorem Ev.cVS1 {idx z j : Nat} {q : Nat × String} {x0 v : Value} (hi : pg_ins mi pc = some (.invokevirtual idx, 3)) (hk : (pg_lks.getD (pg_oi mi) []).lookup idx = some (0, z)) (hj : ex_tx[j]? = some q) (hcl : (pg_y z).cls = "java/lang/String") (hrm : ex_rm mi z = true) (hna : 1 = pg_na z) (hc : cells ≤ RC ∧ slots ≤ RS) (hR : RetV Γ z [.ref (gS Γ j).1, x0] σ v) (h : Ev Γ RC RS mi cells slots (pc + 3) L (v :: st) σ Q) (hw : (st.map fun v => v.category).sum ≤ 8 := by exact Nat.le_of_ble_eq_true rfl) : Ev Γ RC RS mi cells slots pc L (x0 :: .ref (gS Γ j).1 :: st) σ Q :=
  Ev.callVS (as := [x0]) (st := st) hi hk hj hcl rfl hna hrm hw hc hR (fun r s1 q => by obtain ⟨rfl, rfl⟩ := q; exact h)
end
section
variable {Γ : ex_G} {σ : ex_S} {j N k a : Nat} {q : Nat × String} {f : Nat → Int32}
theorem str_coder (hv4 : gV Γ 4 = .int 1) (hj : ex_tx[j]? = some q) : RetV Γ m_String_coder [.ref (gS Γ j).1] σ (.int 0) := by
  refine Ret.start pm_285 rfl ?_
  refine Ev.gets rfl rfl ?_
  rw [hv4]
  refine Ev.zeq (tgt := 13) rfl (by decide) (fun c => absurd c (by decide)) (fun c => ?_)
  refine Ev.aload_n rfl rfl ?_
  refine Ev.getSc rfl rfl hj ?_
  refine Ev.goto (tgt := 14) rfl (by decide) ?_
  refine Ev.iret (ty := .byte) rfl rfl rfl (Nat.le_refl _) (Nat.le_refl _) ?_
  exact ⟨rfl, rfl⟩
theorem str_latin (hv4 : gV Γ 4 = .int 1) (hj : ex_tx[j]? = some q) : RetV Γ m_String_isLatin1 [.ref (gS Γ j).1] σ (.int 1) := by
  refine Ret.start pm_286 rfl ?_
  refine Ev.gets rfl rfl ?_
  rw [hv4]
  refine Ev.zeq (tgt := 17) rfl (by decide) (fun c => absurd c (by decide)) (fun c => ?_)
  refine Ev.aload_n rfl rfl ?_
  refine Ev.getSc rfl rfl hj ?_
  refine Ev.zne (tgt := 17) rfl (by decide) (fun c => absurd rfl c) (fun c => ?_)
  refine Ev.iconst (v := 1) rfl (by decide) ?_
  refine Ev.goto (tgt := 18) rfl (by decide) ?_
  refine Ev.iret (ty := .boolean) rfl rfl rfl (Nat.le_refl _) (Nat.le_refl _) ?_
  exact ⟨rfl, rfl⟩
theorem str_len (hv4 : gV Γ 4 = .int 1) (hj : ex_tx[j]? = some q) (hs : ((gS Γ j).2, 1, N, f) ∈ gA Γ) (hN : N < 100) : RetV Γ m_String_length [.ref (gS Γ j).1] σ (.int (nI N)) := by
  refine Ret.start pm_283 rfl ?_
  refine Ev.aload_n rfl rfl ?_
  refine Ev.getSv rfl rfl hj ?_
  refine Ev.alenS rfl hs rfl ?_
  refine Ev.aload_n rfl rfl ?_
  refine Ev.cVS0 rfl rfl hj rfl (by decide) rfl ⟨(Nat.le_refl _), (Nat.le_refl _)⟩ (str_coder hv4 hj) ?_
  refine Ev.ishr rfl ?_
  refine Ev.iret (ty := .int) rfl rfl rfl (Nat.le_refl _) (Nat.le_refl _) ?_
  refine ⟨?_, rfl⟩
  rw [show Int32.ofNat N = nI N from rfl]
  have : nI N >>> ((0 : Int32) &&& 31) = nI N := by
    have h := sh_toInt (nI N) (i := 0) (by decide)
    apply Int32.toInt_inj.mp
    have e : (0 : Int32) = nI 0 := rfl
    rw [e, h]
    simp
  rw [this]
theorem pre_ok {v : Value} (hv : v = .null ∨ ∃ b, v = .ref b) (hk : k < N) (hN : N < 100) : RetV Γ m_Preconditions_checkIndex [.int (nI k), .int (nI N), v] σ (.int (nI k)) := by
  rcases hv with rfl | ⟨b, rfl⟩
  · refine Ret.start pm_289 rfl ?_
    refine Ev.iload_n rfl rfl ?_
    refine Ev.zlt (tgt := 9) rfl (by decide) (fun c => absurd c (nI_pos (by omega))) (fun c => ?_)
    refine Ev.iload_n rfl rfl ?_
    refine Ev.iload_n rfl rfl ?_
    refine Ev.jlt (tgt := 16) rfl (by decide) (fun c => ?_) (fun c => absurd (nI_lt hk (by omega)) c)
    refine Ev.iload_n rfl rfl ?_
    refine Ev.iret (ty := .int) rfl rfl rfl (Nat.le_refl _) (Nat.le_refl _) ?_
    exact ⟨rfl, rfl⟩
  · refine Ret.start pm_289 rfl ?_
    refine Ev.iload_n rfl rfl ?_
    refine Ev.zlt (tgt := 9) rfl (by decide) (fun c => absurd c (nI_pos (by omega))) (fun c => ?_)
    refine Ev.iload_n rfl rfl ?_
    refine Ev.iload_n rfl rfl ?_
    refine Ev.jlt (tgt := 16) rfl (by decide) (fun c => ?_) (fun c => absurd (nI_lt hk (by omega)) c)
    refine Ev.iload_n rfl rfl ?_
    refine Ev.iret (ty := .int) rfl rfl rfl (Nat.le_refl _) (Nat.le_refl _) ?_
    exact ⟨rfl, rfl⟩
theorem str_check (hv5 : gV Γ 5 = .null ∨ ∃ b, gV Γ 5 = .ref b) (hk : k < N) (hN : N < 100) : RetU Γ m_String_checkIndex [.int (nI k), .int (nI N)] σ σ := by
  refine Ret.start pm_287 rfl ?_
  refine Ev.iload_n rfl rfl ?_
  refine Ev.iload_n rfl rfl ?_
  refine Ev.gets rfl rfl ?_
  refine Ev.cS3 rfl rfl rfl (by decide) ⟨(Nat.le_refl _), (Nat.le_refl _)⟩ (pre_ok hv5 hk hN) ?_
  refine Ev.pop rfl rfl ?_
  refine Ev.ret rfl rfl (Nat.le_refl _) (Nat.le_refl _) ?_
  exact ⟨rfl, rfl⟩
theorem latin_at (hv5 : gV Γ 5 = .null ∨ ∃ b, gV Γ 5 = .ref b) (hs : (a, 1, N, f) ∈ gA Γ) (hk : k < N) (hN : N < 100) (hn : narrow .char (.int (chr (f k))) = .int (chr (f k))) : RetV Γ m_StringLatin1_charAt [.ref a, .int (nI k)] σ (.int (chr (f k))) := by
  refine Ret.start pm_288 rfl ?_
  refine Ev.iload_n rfl rfl ?_
  refine Ev.aload_n rfl rfl ?_
  refine Ev.alenS rfl hs rfl ?_
  refine Ev.cS2u rfl rfl rfl (by decide) ⟨(Nat.le_refl _), (Nat.le_refl _)⟩ (str_check hv5 hk hN) ?_
  refine Ev.aload_n rfl rfl ?_
  refine Ev.iload_n rfl rfl ?_
  refine Ev.baldS rfl hs (vp_in_nI hk (by omega)) ?_
  refine Ev.sipush (v := 255) rfl (by decide) ?_
  refine Ev.iand rfl ?_
  refine Ev.i2c rfl ?_
  rw [nI_clamp (by omega)]
  refine Ev.iret (ty := .char) rfl rfl hn (Nat.le_refl _) (Nat.le_refl _) ?_
  exact ⟨rfl, rfl⟩
theorem str_at (hv4 : gV Γ 4 = .int 1) (hv5 : gV Γ 5 = .null ∨ ∃ b, gV Γ 5 = .ref b) (hj : ex_tx[j]? = some q) (hs : ((gS Γ j).2, 1, N, f) ∈ gA Γ) (hk : k < N) (hN : N < 100) (hn : narrow .char (.int (chr (f k))) = .int (chr (f k))) : RetV Γ m_String_charAt [.ref (gS Γ j).1, .int (nI k)] σ (.int (chr (f k))) := by
  refine Ret.start pm_284 rfl ?_
  refine Ev.aload_n rfl rfl ?_
  refine Ev.cVS0 rfl rfl hj rfl (by decide) rfl ⟨(Nat.le_refl _), (Nat.le_refl _)⟩ (str_latin hv4 hj) ?_
  refine Ev.zeq (tgt := 16) rfl (by decide) (fun c => absurd c (by decide)) (fun c => ?_)
  refine Ev.aload_n rfl rfl ?_
  refine Ev.getSv rfl rfl hj ?_
  refine Ev.iload_n rfl rfl ?_
  refine Ev.cS2 rfl rfl rfl (by decide) ⟨(Nat.le_refl _), (Nat.le_refl _)⟩ (latin_at hv5 hs hk hN hn) ?_
  refine Ev.iret (ty := .char) rfl rfl hn (Nat.le_refl _) (Nat.le_refl _) ?_
  exact ⟨rfl, rfl⟩
end
end
