/-! The law's walk out of a run of method 0. -/
noncomputable section
def lawQ (r : Option Value) (_ : ex_S) : Prop := r = some (.int 1)
theorem start_of {p : Program} {e : Env} {s : State} {m : MethodId} {below : List Frame} {meth : Method} {c : Code} (l : Launch) {b L : Nat} {xs : Nat → Int32} (hL : L ≤ 3072) (C0 : lw_At p s m meth c b L xs)
    (hev : ∀ Γ : ex_G, stat Γ b L xs → Ev Γ 600000 7302250 m_Law_law 0 0 0 [some (.ref b), none, none, none] [] (gN Γ, fun _ => none) lawQ) :
    W p l e room_1 s m #[Value.ref b] below meth c s.heap [] 0 0 (lw_Z below #[Value.ref b] s) (entryFrame m ([Value.ref b] : List Value).toArray 4) := by
  obtain ⟨Γ, hN, hI, hst⟩ := ex_begin hL C0
  obtain ⟨hx, hb, hr, hml, hown, hts, hX, hbl, hlocks, hgv⟩ := id C0
  have X : ex_X Γ m_Law_law p room_1 s m #[Value.ref b] meth c :=
    ⟨hx, hb, hr, hml, hown, fun w hw => hts w (List.mem_filter.mp hw).1, hlocks, fun q => absurd q (by decide +kernel), Nat.le_of_ble_eq_true rfl, Nat.le_of_ble_eq_true rfl, hI, fun pc i n hi => pd_0 (pc, i, n) (ex_lookup _ _ _ hi)⟩
  rw [lg_entry_eq]
  have hM : ex_M Γ (gN Γ, fun _ => none) s.heap := ⟨hN.symm, Nat.le_refl _, fun a e h => by cases h⟩
  refine hev Γ hst p l e room_1 s m #[Value.ref b] below meth c s.heap [] _ _ X rfl rfl hM va_S.rf (ex_Lo.entry (as := [.ref b]) (n := 4) (Nat.le_of_ble_eq_true rfl)) rfl ?_
  intro v σ' H' locs' ls' pc' hQ hM' hS' hret
  have hv : v = some (.int 1) := hQ
  subst hv
  have hd : decode code pc' = .ok (.ireturn, 1) := by
    rcases hret with ⟨h, -⟩ | ⟨x, ty, h, -, -, hi⟩ | ⟨x, h, -⟩ | ⟨w, t, h, -, -, hw, -⟩
    · cases h
    · exact pd_0 (pc', .ireturn, 1) (ex_lookup _ _ _ hi)
    · cases h
    · cases h
      rcases hw with h | ⟨a, h⟩ <;> cases h
  exact va_forget (fun q hq => by rw [← hN]; exact hS'.2.2 q hq) (lw_ret hx hb hr hlocks hd)
end
