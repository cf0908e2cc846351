/-! Methods printed by sym.py that write scratch (class): the spare school, the trial class, what is found. -/
noncomputable section
/-- a school with other steps -/
def S_st (S : Sch) (f : Nat → Int32) : Sch := (S.1, S.2.1, fun j => if j = 0 then f else S.2.2 j)
def L_set (C : Les) (j : Nat) (v : Int32) : Les := fun f => if f = j then v else C f
theorem S_st_self (S : Sch) : S_st S (S.2.2 0) = S := by
  obtain ⟨n, m, f⟩ := S
  unfold S_st
  dsimp only
  refine congrArg (fun g => (n, m, g)) (funext fun j => ?_)
  split
  · rename_i h; rw [h]
  · rfl
theorem isS_cp {τ : ex_S} {a : Nat} {S : Sch} (h : isS τ a S) : isS τ a (S_st S (S.2.2 0)) := by
  rw [S_st_self]
  exact h
theorem isS_st2 {σ τ : ex_S} {a : Nat} {S : Sch} {f0 f : Nat → Int32} (h : isS σ a (S_st S f0)) (f1 : frm σ τ (a + 1) (a + 1 + 1)) (q : τ.2 (a + 1) = some (.inl (0, 17, f))) : isS τ a (S_st S f) := by
  obtain ⟨h0, h1, h2, h3, h4, h5, h6, h7, h8, h9, h10⟩ := h
  exact ⟨(f1.2 _ (by omega)).trans h0, q, (f1.2 _ (by omega)).trans h2, (f1.2 _ (by omega)).trans h3, (f1.2 _ (by omega)).trans h4, (f1.2 _ (by omega)).trans h5, (f1.2 _ (by omega)).trans h6, (f1.2 _ (by omega)).trans h7, (f1.2 _ (by omega)).trans h8, (f1.2 _ (by omega)).trans h9, (f1.2 _ (by omega)).trans h10⟩
section
variable {Γ : ex_G} {σ : ex_S} {x q a p y : Nat} {S : Sch} {T : Tol} {P : Pln} {g A : Nat → Int32}
def F_rise_2 (n : Nat) (w : Int32) (f : Nat → Int32) : Nat → (Nat → Int32) → (Nat → Int32) := fun k z => (upd z k ((z k) + ((w >>> ((nI k) &&& 31)) &&& (1 : Int32))))
def K_rise (n : Nat) (w : Int32) (f : Nat → Int32) : (Nat → Int32) := (fo (F_rise_2 n w f) (n) 0 f)
theorem rise_ok {n : Nat} {r1 r2 r3 r4 r5 r6 r7 r8 r9 r10 r11 : Value} {f : Nat → Int32} (hb : σ.2 a = some (.inr (.inr (2, [.int (nI n), .ref (a + 1), r2, r3, r4, r5, r6, r7, r8, r9, r10, r11])))) (hst : σ.2 (a + 1) = some (.inl (0, 17, f))) (hn : n ≤ 16) (w : Int32) : RetX Γ m_School_rise [(.ref a), (.int w)] σ (a + 1) (a + 1 + 1) none (fun τ => τ.2 (a + 1) = some (.inl (0, 17, (K_rise n w f)))) := by
  unfold RetX
  generalize hQ : (fun (r : Option Value) (τ : ex_S) => r = none ∧ frm σ τ (a + 1) (a + 1 + 1) ∧ (fun τ : ex_S => τ.2 (a + 1) = some (.inl (0, 17, (K_rise n w f)))) τ) = Q
  refine Ret.start pm_94 rfl ?_
  have fr : frm σ σ (a + 1) (a + 1 + 1) := frm.rf
  have h0 := frm.cell fr hb (by omega)
  refine Ev.iconst (v := 0) rfl (by decide) ?_
  refine Ev.istore_n rfl rfl rfl ?_
  refine Ev.fg (L := [some (.ref a), some (.int w), some (.int (nI 0))]) ?_ (gs rfl (gs rfl (gs (congrArg Value.int (rfl : (0 : Int32) = nI 0).symm) gz)))
  refine lp (fun (k : Nat) (z : (Nat → Int32)) => ∀ τ' : ex_S, frm σ τ' (a + 1) (a + 1 + 1) → τ'.2 (a + 1) = some (.inl (0, 17, z)) → Ev Γ 0 0 m_School_rise 0 0 2 [some (.ref a), some (.int w), some (.int (nI k))] [] τ' Q) (F_rise_2 n w f) (n) (fun k z hk hx => ?_) (n) 0 f (by omega) ?_ σ fr hst
  · skip
    intro τ' fr hst
    have h0 := frm.cell fr hb (by omega)
    refine Ev.iload_n rfl rfl ?_
    refine Ev.aload_n rfl rfl ?_
    refine Ev.getf rfl rfl h0 rfl ?_
    refine Ev.jge (tgt := 30) rfl (by decide) (fun c7 => absurd (nI_lt hk (by omega)) c7) (fun c7 => ?_)
    refine Ev.aload_n rfl rfl ?_
    refine Ev.getf rfl rfl h0 rfl ?_
    refine Ev.iload_n rfl rfl ?_
    refine Ev.dup2 rfl rfl rfl ?_
    refine Ev.ialdN (k := k) rfl hst rfl ⟨(by omega), by decide⟩ ?_
    refine Ev.iload_n rfl rfl ?_
    refine Ev.iload_n rfl rfl ?_
    refine Ev.ishr rfl ?_
    refine Ev.iconst (v := 1) rfl (by decide) ?_
    refine Ev.iand rfl ?_
    refine Ev.iadd rfl ?_
    refine Ev.iastE (k := k) rfl hst rfl ⟨(by omega), by decide⟩ (fun τ1 f1 hst => ?_)
    have fr := fr.step f1 (by omega) (by omega)
    have h0 := frm.cell fr hb (by omega)
    refine Ev.iinc (d := 1) rfl rfl rfl (by decide) rfl ?_
    refine Ev.goto (tgt := 2) rfl (by decide) ?_
    have hF : (F_rise_2 n w f) k z = (upd z k ((z k) + ((w >>> ((nI k) &&& 31)) &&& (1 : Int32)))) := by rfl
    rw [hF] at hx
    exact (hx τ1 fr hst).fg (gs rfl (gs rfl (gs (congrArg Value.int (show nI (k + 1) = (nI k) + (1 : Int32) from (nq_to (a := k + 1) (nq_add (a := k) (b := 1) rfl (rfl : (1 : Int32) = nI 1)) (by omega)).symm)) gz)))
  · skip
    intro τ' fr hst
    have h0 := frm.cell fr hb (by omega)
    refine Ev.iload_n rfl rfl ?_
    refine Ev.aload_n rfl rfl ?_
    refine Ev.getf rfl rfl h0 rfl ?_
    refine Ev.jge (tgt := 30) rfl (by decide) (fun c7 => ?_) (fun c7 => absurd c7 (nI_nlt (Nat.le_refl _) (by omega)))
    refine Ev.ret rfl rfl (Nat.le_refl _) (Nat.le_refl _) ?_
    have hK : (K_rise n w f) = (fo (F_rise_2 n w f) (n) 0 f) := by rfl
    rw [← hQ]
    dsimp only
    rw [hK]
    exact ⟨rfl, fr, hst⟩
end
end
