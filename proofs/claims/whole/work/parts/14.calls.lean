/-! A method's contract out of its run, and rows of calls. -/
noncomputable section
def ex_w (z : Nat) : List Cond := Cond.code (pg_y z) (pg_b z) (pg_ml z) (pg_rt z) :: lw_g
/-- method z, called with these arguments over this store, comes back with Q; at most mc cells of ms slots are new -/
def Ret (Γ : ex_G) (z mc ms : Nat) (as : List Value) (σ : ex_S) (Q : Option Value → ex_S → Prop) : Prop :=
  ∀ l : Launch, Met l (pg_y z) (ex_w z) { frames := pg_fr z, cells := mc, slots := ms, locals := pg_lo z } (va_Pc as (fun U => ex_I Γ U ∧ ex_M Γ σ U.heap))
    (fun _ s0 o t => ∃ v σ', o = .returned v ∧ Q v σ' ∧ ex_M Γ σ' t.heap ∧ va_F (ex_A Γ) s0 t) mc ms (ex_A Γ)
theorem ex_goodIn (z : Nat) (hz : Cond.code (pg_y z) (pg_b z) (pg_ml z) (pg_rt z) ∈ lw_g) : GoodIn lw_g (ex_w z) := by
  intro w hw
  rcases List.mem_cons.mp hw with h | h
  · subst h
    exact ⟨hz, good_of_word (lg_good _ hz)⟩
  · exact ⟨h, good_of_word (lg_good _ h)⟩
theorem Ret.start {Γ : ex_G} {z mc ms : Nat} {as : List Value} {σ : ex_S} {Q : Option Value → ex_S → Prop} (hz : pg_okM z) (hl : Nat.ble (lg_sl as).length (pg_ml z) = true) (h : Ev Γ mc ms z 0 0 0 (ex_L0 as (pg_ml z)) [] σ Q) : Ret Γ z mc ms as σ Q := by
  intro l
  obtain ⟨h1, h2, h3, h4, h5, h6⟩ := hz
  refine Met.ofW (cc := pg_b z) (maxL := pg_ml z) (ret := pg_rt z) h4 rfl ?_
  intro p e s m args below meth c s₁ B hml hv
  obtain ⟨rfl, hI, hM⟩ := hv
  have hts := atoms_spec (ws := ex_w z) B.pre
  have hown : s.vm.findClass (pg_on (pg_oi z)) = some m.cls := by rw [h6]; exact findClass_of_methodNamed B.named
  have hle := Nat.le_of_ble_eq_true hl
  rw [lg_entry_eq]
  have hnm : (pg_y z).name = "<init>" → meth.name = "<init>" := fun q => (name_of_methodNamed B.named B.method).1.trans q
  have X : ex_X Γ z p (headSpec (ex_w z) { frames := pg_fr z, cells := mc, slots := ms, locals := pg_lo z }).room s m as.toArray meth c :=
    ⟨B.exec, B.bytes, B.returns, hml, hown, fun w hw => hts w (List.mem_cons_of_mem _ hw), B.notSynchronized, hnm, Nat.le_refl _, Nat.le_refl _, hI, fun pc i n hi => h3 (pc, i, n) (ex_lookup _ _ _ hi)⟩
  refine h p l e _ s m as.toArray below meth c s.heap [] _ _ X rfl rfl hM va_S.rf (ex_Lo.entry hle) (ex_L0_len as _ hle) ?_
  intro v σ' H' locs' ls' pc' hQ hM' hS' hr
  have hq : ∀ t : State, t.heap = H' → s.WarmedH t.vm → (fun (_ : Array Value) (s0 : State) (o : Outcome) (t : State) => ∃ v σ', o = .returned v ∧ Q v σ' ∧ ex_M Γ σ' t.heap ∧ va_F (ex_A Γ) s0 t) as.toArray s (.returned v) t := fun t ht _ => ⟨v, σ', rfl, hQ, by rw [ht]; exact hM', hS'.F ht⟩
  have hlocks := B.notSynchronized
  rcases hr with ⟨rfl, hr, hi⟩ | ⟨x, ty, rfl, hr, hx, hi⟩ | ⟨x, rfl, hr, hi⟩ | ⟨w, t, rfl, hr, ht, hw, hi⟩
  · exact W.vret X.1 X.2.1 (B.returns.trans hr) hq hS'.2.2 (X.2.2.2.2.2.2.2.2.2.2.2 _ _ _ hi)
  · exact W.zret X.1 X.2.1 (B.returns.trans hr) hx hq hS'.2.2 (X.2.2.2.2.2.2.2.2.2.2.2 _ _ _ hi)
  · exact W.lret X.1 X.2.1 (B.returns.trans hr) hq hS'.2.2 (X.2.2.2.2.2.2.2.2.2.2.2 _ _ _ hi)
  · exact W.aret X.1 X.2.1 (B.returns.trans hr) ht hw hq hS'.2.2 (X.2.2.2.2.2.2.2.2.2.2.2 _ _ _ hi)
theorem ex_blind {Γ : ex_G} {as : List Value} {σ : ex_S} : FrameBlind (va_Pc as (fun U => ex_I Γ U ∧ ex_M Γ σ U.heap)) := by
  intro a U g mk h
  obtain ⟨h1, h2, h3⟩ := h
  exact ⟨h1, h2.blind rfl rfl, h3⟩
/-- the rest of a call, whatever kind it is -/
theorem ex_call {Γ : ex_G} {RC RS mi cells slots pc z mc ms : Nat} {L : ex_L} {st0 st : List Value} {σ : ex_S} {Q Q' : Option Value → ex_S → Prop} {p : Program} {l : Launch} {e : Env} {R : Room} {s : State} {m : MethodId} {args a : Array Value} {below : List Frame} {meth : Method} {c : Code} {H : Heap} {locs : List Loc} {ls : Array Slot} {Z : State → Prop}
    (X : ex_X Γ mi p R s m args meth c) (r1 : R.cells = RC) (r2 : R.slots = RS) (hS : va_S (ex_A Γ) s.heap H locs) (hL : ex_Lo ls L) (hn : L.length = pg_ml mi)
    (hZ : ∀ (v : Option Value) (σ' : ex_S) (H' : Heap) (locs' : List Loc) (ls' : Array Slot) (pc' : Nat), Q v σ' → ex_M Γ σ' H' → va_S (ex_A Γ) s.heap H' locs' → ex_ret mi v pc' → W p l e R s m args below meth c H' locs' RC RS Z (F0 m pc' ls' v.toList))
    (hr : va_Run p l e R s m args below meth c H locs cells slots mc ms (F0 m pc ls st0) st ((fun _ s0 o t => ∃ v σ', o = .returned v ∧ Q' v σ' ∧ ex_M Γ σ' t.heap ∧ va_F (ex_A Γ) s0 t : Array Value → State → Outcome → State → Prop) a) (ex_A Γ))
    (h : ∀ v σ', Q' v σ' → Ev Γ RC RS mi (cells + mc) (slots + ms) (pc + 3) L (v.toList ++ st) σ' Q) : W p l e R s m args below meth c H locs cells slots Z (F0 m pc ls st0) := by
  intro T hT X0
  obtain ⟨v, s0, t, T', L0, h0, X', hL0, e1, e2, ⟨v', σ', hv, hQ, hM', hF⟩, go⟩ := hr T hT X0
  cases hv
  have hS' : va_S (ex_A Γ) s.heap T'.heap (locs ++ L0) := by
    obtain ⟨f1, f2⟩ := hF
    rw [h0] at f1 f2
    refine ⟨Nat.le_trans hS.1 (by rw [e1]; exact f1), fun q g1 g2 => ?_, fun q hq => ?_⟩
    · rw [e1, f2 q (Nat.lt_of_lt_of_le g1 hS.1) g2]
      exact hS.2.1 q g1 g2
    · rcases List.mem_append.mp hq with g | g
      · exact hS.2.2 q g
      · exact hL0 q g
  obtain ⟨t2, a1, b1⟩ := h v σ' hQ p l e R s m args below meth c T'.heap (locs ++ L0) ls Z X r1 r2 (by rw [e1]; exact hM') hS' hL hn hZ T' rfl X'
  exact ⟨t2, go t2 a1, b1⟩
end
