/-! System.arraycopy between arrays of ints or of bytes. -/
noncomputable section
section
variable {Γ : ex_G} {RC RS mi cells slots pc : Nat} {L : ex_L} {st : List Value} {σ : ex_S} {Q : Option Value → ex_S → Prop}
theorem ex_nn {z : Int32} (hz : ¬ z < 0) : z.toInt = (z.toNatClampNeg : Int) := by
  have hz0 : (0 : Int) ≤ z.toInt := by
    have := Int32.not_lt.mp hz
    simpa using Int32.le_iff_toInt_le.mp this
  show z.toInt = ((z.toInt.toNat : Nat) : Int)
  omega
/-- the source: any cell whose first n0 places hold f -/
theorem ex_copy {idx a a0 n1 t : Nat} {f g : Nat → Int32} {sp dp n : Int32} {ty : FieldType} (hi : pg_ins mi pc = some (.invokestatic idx, 3)) (hk : (pg_acs.getD (pg_oi mi) []).lookup idx = some ()) (ha : σ.2 a = some (.inl (t, n1, g))) (ht : (ex_tys Γ)[t]? = some (gT Γ t, ty)) (hp : refKind ty = false) (h1 : ¬ sp < 0) (h2 : ¬ dp < 0) (h3 : ¬ n < 0) (h5 : dp.toNatClampNeg + n.toNatClampNeg ≤ n1) (hfit : ∀ i, i < n.toNatClampNeg → fits ty (.int (f (sp.toNatClampNeg + i))) = true) (hf : Nat.ble 1 (pg_fr mi) = true) (hw : (st.map fun v => v.category).sum + (nativeFrameWords "java/lang/System" "arraycopy" 5 + 11) ≤ pg_lo mi)
    (hsrc : ∀ (p : Program) (R : Room) (s : State) (m : MethodId) (args : Array Value) (meth : Method) (c : Code) (H : Heap) (locs : List Loc), ex_X Γ mi p R s m args meth c → ex_M Γ σ H → va_S (ex_A Γ) s.heap H locs → ∃ cs : Cell, H[a0]? = some cs ∧ s.isArrayOf cs ty ∧ cs.vm ≠ .unknown ∧ sp.toNatClampNeg + n.toNatClampNeg ≤ cs.slots.size ∧ ∀ j, j < sp.toNatClampNeg + n.toNatClampNeg → cs.slots[j]? = some (.int (f j)))
    (h : Ev Γ RC RS mi cells slots (pc + 3) L st (ex_put σ a (.inl (t, n1, va_cpy f g sp.toNatClampNeg dp.toNatClampNeg n.toNatClampNeg))) Q) : Ev Γ RC RS mi cells slots pc L (.int n :: .int dp :: .ref a :: .int sp :: .ref a0 :: st) σ Q := by
  intro p l e R s m args below meth c H locs ls Z X r1 r2 hM hS hL hn hZ
  have hts := X.2.2.2.2.2.1
  have hK := X.2.2.2.2.2.2.2.2.2.2.1.1
  obtain ⟨cs, hc0, hs2, hs3, hs4, hs5⟩ := hsrc p R s m args meth c H locs X hM hS
  obtain ⟨hge, hc1⟩ := hM.2.2 a _ ha
  have hc1 : H[a]? = some (vp_cell (gT Γ t) (n1, .inl g)) := hc1
  intro T hT X0
  obtain ⟨hs6, k0, hk0, cm0, hkk0⟩ := hs2
  obtain ⟨-, k1, hk1, cm1, hkk1⟩ := (hK.2 t _ ht).1 n1 (fun j => .int (g j))
  obtain ⟨vm', X', step⟩ := X0.arraycopy X.1 X.2.2.2.2.1 (hts _ (pg_ac_ok _ _ (ex_lookup _ _ _ hk))) (hts _ ps_acp.1) (hts _ ps_acp.2.1) (hts _ ps_acp.2.2) (src := a0) (dst := a) (cs := cs) (cd := vp_cell (gT Γ t) (n1, .inl g)) (srcPos := sp) (destPos := dp) (n := n) (by rw [hT]; exact hc0) (by rw [hT]; exact hc1)
    hs6 (fun _ h => by cases h) hs3 (fun h => by cases h) hk0 hk1 hkk0 hkk1 (by simp [hp]) h1 h2 h3
    (by rw [ex_nn h1, ex_nn h3]; omega)
    (by rw [ex_nn h2, ex_nn h3]; show ¬ _ > ((arrV (gT Γ t) n1 (fun j => .int (g j))).slots.size : Int); rw [arrV_size]; omega)
    (fun vm₁ _ i hi => by
      have e : cs.slots.getD (sp.toNatClampNeg + i) .null = .int (f (sp.toNatClampNeg + i)) := by
        rw [Array.getD_eq_getD_getElem?, hs5 _ (by omega)]
        rfl
      refine ⟨?_, ?_⟩
      · rw [e]
        exact hfit i hi
      · rw [e]
        exact trivial)
    (g := F0 m pc ls (.int n :: .int dp :: .ref a :: .int sp :: .ref a0 :: st)) rfl (by show ls.size = _; rw [X.2.2.2.1, hL.1, hn]) (rest := st) rfl (by rw [X.2.1]; exact X.2.2.2.2.2.2.2.2.2.2.2 _ _ _ hi) (Nat.le_trans (Nat.le_of_ble_eq_true hf) X.2.2.2.2.2.2.2.2.1) (by show 2 * 0 + _ + _ ≤ _; exact Nat.le_trans (by omega) X.2.2.2.2.2.2.2.2.2.1)
  have e1 : copied cs (vp_cell (gT Γ t) (n1, .inl g)) sp dp n = vp_cell (gT Γ t) (n1, .inl (va_cpy f g sp.toNatClampNeg dp.toNatClampNeg n.toNatClampNeg)) := va_copiedX (fun z => .int z) cs (gT Γ t) (n0 := sp.toNatClampNeg + n.toNatClampNeg) f g hs5 (Nat.le_refl _)
  rw [e1] at X' step
  have hl : a < H.size := (Array.getElem?_eq_some_iff.mp hc1).1
  have hheap : ((T.setVm vm').setCell a (vp_cell (gT Γ t) (n1, .inl (va_cpy f g sp.toNatClampNeg dp.toNatClampNeg n.toNatClampNeg)))).heap = H.setIfInBounds a (vp_cell (gT Γ t) (n1, .inl (va_cpy f g sp.toNatClampNeg dp.toNatClampNeg n.toNatClampNeg))) := by rw [← hT]; rfl
  have oq : ∀ q : Nat, q ≠ a → (H.setIfInBounds a (vp_cell (gT Γ t) (n1, .inl (va_cpy f g sp.toNatClampNeg dp.toNatClampNeg n.toNatClampNeg))))[q]? = H[q]? := fun q hq => by simp [Array.getElem?_setIfInBounds, Ne.symm hq]
  obtain ⟨t2, a1, b1⟩ := h p l e R s m args below meth c _ _ ls Z X r1 r2 (hM.put (by simp) oq hge (show (H.setIfInBounds a _)[a]? = some _ by simp [Array.getElem?_setIfInBounds, hl, ex_c])) ⟨by simp; exact hS.1, fun q g1 g2 => by
      rw [oq q (fun e => g2 (by rw [e]; exact hge))]
      exact hS.2.1 q g1 g2, fun q hq => by
      rcases List.mem_append.mp hq with h | h
      · exact hS.2.2 q h
      · obtain ⟨z, -, hz⟩ := List.mem_map.mp h
        rw [← hz]
        exact hge⟩ hL hn hZ _ hheap X'
  exact ⟨t2, step t2 a1, b1⟩
theorem Ev.copy {idx a a0 n0 n1 t : Nat} {f g : Nat → Int32} {sp dp n : Int32} {ty : FieldType} (hi : pg_ins mi pc = some (.invokestatic idx, 3)) (hk : (pg_acs.getD (pg_oi mi) []).lookup idx = some ()) (ha0 : σ.2 a0 = some (.inl (t, n0, f))) (ha : σ.2 a = some (.inl (t, n1, g))) (ht : (ex_tys Γ)[t]? = some (gT Γ t, ty)) (hp : refKind ty = false) (h1 : ¬ sp < 0) (h2 : ¬ dp < 0) (h3 : ¬ n < 0) (h4 : sp.toNatClampNeg + n.toNatClampNeg ≤ n0) (h5 : dp.toNatClampNeg + n.toNatClampNeg ≤ n1) (hfit : ∀ i, i < n.toNatClampNeg → fits ty (.int (f (sp.toNatClampNeg + i))) = true) (hf : Nat.ble 1 (pg_fr mi) = true) (hw : (st.map fun v => v.category).sum + (nativeFrameWords "java/lang/System" "arraycopy" 5 + 11) ≤ pg_lo mi)
    (h : Ev Γ RC RS mi cells slots (pc + 3) L st (ex_put σ a (.inl (t, n1, va_cpy f g sp.toNatClampNeg dp.toNatClampNeg n.toNatClampNeg))) Q) : Ev Γ RC RS mi cells slots pc L (.int n :: .int dp :: .ref a :: .int sp :: .ref a0 :: st) σ Q := by
  refine ex_copy hi hk ha ht hp h1 h2 h3 h5 hfit hf hw (fun p R s m args meth c H locs X hM hS => ?_) h
  have hc0 := (hM.2.2 a0 _ ha0).2
  refine ⟨_, hc0, (X.2.2.2.2.2.2.2.2.2.2.1.1.2 t _ ht).1 n0 (fun j => .int (f j)), (fun q => by cases q), ?_, fun j hj => ?_⟩
  · show _ ≤ (arrV _ _ _).slots.size
    rw [arrV_size]
    exact h4
  · show (arrV _ _ _).slots[j]? = _
    have hj0 : j < n0 := by omega
    rw [arrV_read _ _ hj0]
theorem Ev.copyS {idx a a0 n0 n1 : Nat} {f g : Nat → Int32} {sp dp n : Int32} (hi : pg_ins mi pc = some (.invokestatic idx, 3)) (hk : (pg_acs.getD (pg_oi mi) []).lookup idx = some ()) (ha0 : (a0, 0, n0, f) ∈ gA Γ) (ha : σ.2 a = some (.inl (0, n1, g))) (h1 : ¬ sp < 0) (h2 : ¬ dp < 0) (h3 : ¬ n < 0) (h4 : sp.toNatClampNeg + n.toNatClampNeg ≤ n0) (h5 : dp.toNatClampNeg + n.toNatClampNeg ≤ n1) (hf : Nat.ble 1 (pg_fr mi) = true) (hw : (st.map fun v => v.category).sum + (nativeFrameWords "java/lang/System" "arraycopy" 5 + 11) ≤ pg_lo mi)
    (h : Ev Γ RC RS mi cells slots (pc + 3) L st (ex_put σ a (.inl (0, n1, va_cpy f g sp.toNatClampNeg dp.toNatClampNeg n.toNatClampNeg))) Q) : Ev Γ RC RS mi cells slots pc L (.int n :: .int dp :: .ref a :: .int sp :: .ref a0 :: st) σ Q := by
  refine ex_copy (ty := .int) hi hk ha rfl rfl h1 h2 h3 h5 (fun _ _ => rfl) hf hw (fun p R s m args meth c H locs X hM hS => ?_) h
  obtain ⟨ty, e1, cell, g1, g2, g3, g4, g5, g6, g7⟩ := X.2.2.2.2.2.2.2.2.2.2.1.2.2.1 a0 0 n0 f ha0
  cases e1
  exact ⟨cell, by rw [hS.2.1 _ (Array.getElem?_eq_some_iff.mp g1).1 g7]; exact g1, g2, g3, Nat.le_trans h4 g4, fun j hj => g6 j (by omega)⟩
end
end
