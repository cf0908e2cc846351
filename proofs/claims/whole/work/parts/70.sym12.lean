/-! Printed by sym.py: feed, on both sides. -/
noncomputable section
/-- one byte more on the tape -/
def T_byte (T : Tol) (b : Int32) : Tol := T_n (T_b T (upd (tB T) (tN T) b)) (tN T + 1)
def byt (v s : Int32) : Int32 := ((v >>> (s &&& 31)).toInt8.toInt32).toInt8.toInt32
section
variable {Γ : ex_G} {σ : ex_S} {x q a p y : Nat} {S : Sch} {T : Tol} {P : Pln} {g A : Nat → Int32}
variable {m : Nat}
def K_write (T : Tol) (v : Int32) : Tol := T_byte (T_byte (T_byte (T_byte T (byt v 24)) (byt v (24 + -8))) (byt v (24 + -8 + -8))) (byt v (24 + -8 + -8 + -8))
theorem wr_step {Q : Option Value → ex_S → Prop} (hT : isT σ q T) (hn : tN T < 600) (v s : Int32) (hs : ¬ s < 0) (h : ∀ τ, frm σ τ q (q + 61) → isT τ q (T_byte T (byt v s)) → Ev Γ 0 0 m_State_write 0 0 3 [some (.ref q), some (.int v), some (.int (s + -8))] [] τ Q) : Ev Γ 0 0 m_State_write 0 0 3 [some (.ref q), some (.int v), some (.int s)] [] σ Q := by
  have fr : frm σ σ q (q + 61) := frm.rf
  obtain ⟨t0, t1, ⟨ts, t2, t3⟩, ⟨tp, t4, t5⟩, t6, t7⟩ := id hT
  refine Ev.iload_n rfl rfl ?_
  refine Ev.zlt (tgt := 46) rfl (by decide) (fun c4 => absurd c4 hs) (fun c4 => ?_)
  refine Ev.aload_n rfl rfl ?_
  refine Ev.getf rfl rfl t0 rfl ?_
  refine Ev.sipush (v := 600) rfl (by decide) ?_
  refine Ev.jge (tgt := 46) rfl (by decide) (fun c14 => absurd (nI_lt (b := 600) hn (by omega)) c14) (fun c14 => ?_)
  refine Ev.aload_n rfl rfl ?_
  refine Ev.getf rfl rfl t0 rfl ?_
  refine Ev.aload_n rfl rfl ?_
  refine Ev.getf rfl rfl t0 rfl ?_
  refine Ev.iload_n rfl rfl ?_
  refine Ev.iload_n rfl rfl ?_
  refine Ev.ishr rfl ?_
  refine Ev.i2b rfl ?_
  refine Ev.bastE (k := tN T) rfl t1 rfl ⟨hn, by decide⟩ (fun τ1 f1 q1 => ?_)
  have hT : isT τ1 q (T_b T (upd (tB T) (tN T) (byt v s))) := isT_b hT f1 q1
  have fr := fr.step f1 (by omega) (by omega)
  obtain ⟨t0, t1, ⟨ts, t2, t3⟩, ⟨tp, t4, t5⟩, t6, t7⟩ := id hT
  refine Ev.aload_n rfl rfl ?_
  refine Ev.dup rfl rfl ?_
  refine Ev.getf rfl rfl t0 rfl ?_
  refine Ev.iconst (v := 1) rfl (by decide) ?_
  refine Ev.iadd rfl ?_
  have e1 : (nI (tN (T_b T (upd (tB T) (tN T) (byt v s))))) + (1 : Int32) = nI (tN T + 1) := nq_add (a := tN T) (b := 1) rfl (rfl : (1 : Int32) = nI 1)
  rw [e1]
  refine Ev.putE rfl rfl t0 rfl rfl rfl (Nat.le_of_ble_eq_true rfl) (fun τ2 f1 q1 => ?_)
  have hT : isT τ2 q (T_byte T (byt v s)) := isT_n hT f1 q1
  have fr := fr.step f1 (by omega) (by omega)
  refine Ev.iinc (d := (-8)) rfl rfl rfl (by decide) rfl ?_
  refine Ev.goto (tgt := 3) rfl (by decide) ?_
  exact h τ2 fr hT
theorem tN_byte (T : Tol) (b : Int32) : tN (T_byte T b) = tN T + 1 := rfl
theorem tN_write (T : Tol) (v : Int32) : tN (K_write T v) = tN T + 4 := rfl
theorem write_ok (hT : isT σ q T) (hn : tN T + 4 ≤ 600) (v : Int32) : RetX Γ m_State_write [(.ref q), (.int v)] σ q (q + 61) none (fun τ => isT τ q (K_write T v)) := by
  unfold RetX
  refine Ret.start pm_65 rfl ?_
  refine Ev.bipush (v := 24) rfl (by decide) ?_
  refine Ev.istore_n rfl rfl rfl ?_
  refine wr_step hT (by omega) v 24 (by decide) (fun τ1 f1 hT => ?_)
  generalize hb1 : T_byte T (byt v 24) = T1 at hT
  have hn1 : tN T1 = tN T + 1 := by rw [← hb1]; exact tN_byte _ _
  refine wr_step hT (by omega) v (24 + -8) (by decide) (fun τ2 f2 hT => ?_)
  generalize hb2 : T_byte T1 (byt v (24 + -8)) = T2 at hT
  have hn2 : tN T2 = tN T1 + 1 := by rw [← hb2]; exact tN_byte _ _
  refine wr_step hT (by omega) v (24 + -8 + -8) (by decide) (fun τ3 f3 hT => ?_)
  generalize hb3 : T_byte T2 (byt v (24 + -8 + -8)) = T3 at hT
  have hn3 : tN T3 = tN T2 + 1 := by rw [← hb3]; exact tN_byte _ _
  refine wr_step hT (by omega) v (24 + -8 + -8 + -8) (by decide) (fun τ4 f4 hT => ?_)
  refine Ev.iload_n rfl rfl ?_
  refine Ev.zlt (tgt := 46) rfl (by decide) (fun c4 => ?_) (fun c4 => absurd (by decide) c4)
  refine Ev.ret rfl rfl (Nat.le_refl _) (Nat.le_refl _) ?_
  refine ⟨rfl, ((f1.step f2 (by omega) (by omega)).step f3 (by omega) (by omega)).step f4 (by omega) (by omega), ?_⟩
  have e : K_write T v = T_byte T3 (byt v (24 + -8 + -8 + -8)) := by rw [← hb3, ← hb2, ← hb1]; rfl
  show isT τ4 q (K_write T v)
  rw [e]
  exact hT
def K_feed (T : Tol) (a b c e f : Int32) : Int32 × Tol := (nI (tN (K_write (K_write (K_write (K_write (K_write T a) b) c) e) f)), K_write (K_write (K_write (K_write (K_write T a) b) c) e) f)
theorem feed_yes (hX0 : isX σ x) (hT : isT σ (x + 1) T) (hn : tN T + 20 ≤ 600) (a b c e f : Int32) : RetX Γ m_SD_feed [(.ref x), (.int a), (.int b), (.int c), (.int e), (.int f)] σ (x + 1) (x + 62) (some (.int ((K_feed T a b c e f).1))) (fun τ => isT τ (x + 1) ((K_feed T a b c e f).2)) := by
  unfold RetX
  generalize hQ : (fun (r : Option Value) (τ : ex_S) => r = some (.int ((K_feed T a b c e f).1)) ∧ frm σ τ (x + 1) (x + 62) ∧ (fun τ : ex_S => isT τ (x + 1) ((K_feed T a b c e f).2)) τ) = Q
  refine Ret.start pm_2 rfl ?_
  have fr : frm σ σ (x + 1) (x + 62) := frm.rf
  have hX := isX.frm hX0 fr (by omega)
  obtain ⟨t0, t1, ⟨ts, t2, t3⟩, ⟨tp, t4, t5⟩, t6, t7⟩ := id hT
  refine Ev.aload_n rfl rfl ?_
  refine Ev.getf rfl rfl hX rfl ?_
  refine Ev.getf rfl rfl t0 rfl ?_
  refine Ev.bipush (v := 20) rfl (by decide) ?_
  refine Ev.iadd rfl ?_
  rw [show (nI (tN T)) + (20 : Int32) = nI (tN T + 20) from (nq_add (a := tN T) (b := 20) rfl (rfl : (20 : Int32) = nI 20))]
  refine Ev.sipush (v := 600) rfl (by decide) ?_
  refine Ev.jle (tgt := 18) rfl (by decide) (fun c13 => ?_) (fun c13 => absurd c13 (nI_nlt (a := 600) hn (by omega)))
  refine Ev.aload_n rfl rfl ?_
  refine Ev.getf rfl rfl hX rfl ?_
  refine Ev.iload_n rfl rfl ?_
  refine Ev.xV1u rfl rfl t0 rfl rfl (by decide) ⟨(Nat.le_refl _), (Nat.le_refl _)⟩ (write_ok hT (by omega) _) (fun τ1 f1 q1 => ?_)
  have hT := q1
  have fr := fr.step f1 (by omega) (by omega)
  have hX := isX.frm hX0 fr (by omega)
  obtain ⟨t0, t1, ⟨ts, t2, t3⟩, ⟨tp, t4, t5⟩, t6, t7⟩ := id hT
  refine Ev.aload_n rfl rfl ?_
  refine Ev.getf rfl rfl hX rfl ?_
  refine Ev.iload_n rfl rfl ?_
  refine Ev.xV1u rfl rfl t0 rfl rfl (by decide) ⟨(Nat.le_refl _), (Nat.le_refl _)⟩ (write_ok hT (by rw [tN_write]; omega) _) (fun τ2 f1 q1 => ?_)
  have hT := q1
  have fr := fr.step f1 (by omega) (by omega)
  have hX := isX.frm hX0 fr (by omega)
  obtain ⟨t0, t1, ⟨ts, t2, t3⟩, ⟨tp, t4, t5⟩, t6, t7⟩ := id hT
  refine Ev.aload_n rfl rfl ?_
  refine Ev.getf rfl rfl hX rfl ?_
  refine Ev.iload_n rfl rfl ?_
  refine Ev.xV1u rfl rfl t0 rfl rfl (by decide) ⟨(Nat.le_refl _), (Nat.le_refl _)⟩ (write_ok hT (by rw [tN_write, tN_write]; omega) _) (fun τ3 f1 q1 => ?_)
  have hT := q1
  have fr := fr.step f1 (by omega) (by omega)
  have hX := isX.frm hX0 fr (by omega)
  obtain ⟨t0, t1, ⟨ts, t2, t3⟩, ⟨tp, t4, t5⟩, t6, t7⟩ := id hT
  refine Ev.aload_n rfl rfl ?_
  refine Ev.getf rfl rfl hX rfl ?_
  refine Ev.iload rfl rfl ?_
  refine Ev.xV1u rfl rfl t0 rfl rfl (by decide) ⟨(Nat.le_refl _), (Nat.le_refl _)⟩ (write_ok hT (by rw [tN_write, tN_write, tN_write]; omega) _) (fun τ4 f1 q1 => ?_)
  have hT := q1
  have fr := fr.step f1 (by omega) (by omega)
  have hX := isX.frm hX0 fr (by omega)
  obtain ⟨t0, t1, ⟨ts, t2, t3⟩, ⟨tp, t4, t5⟩, t6, t7⟩ := id hT
  refine Ev.aload_n rfl rfl ?_
  refine Ev.getf rfl rfl hX rfl ?_
  refine Ev.iload rfl rfl ?_
  refine Ev.xV1u rfl rfl t0 rfl rfl (by decide) ⟨(Nat.le_refl _), (Nat.le_refl _)⟩ (write_ok hT (by rw [tN_write, tN_write, tN_write, tN_write]; omega) _) (fun τ5 f1 q1 => ?_)
  have hT := q1
  have fr := fr.step f1 (by omega) (by omega)
  have hX := isX.frm hX0 fr (by omega)
  obtain ⟨t0, t1, ⟨ts, t2, t3⟩, ⟨tp, t4, t5⟩, t6, t7⟩ := id hT
  refine Ev.aload_n rfl rfl ?_
  refine Ev.getf rfl rfl hX rfl ?_
  refine Ev.getf rfl rfl t0 rfl ?_
  refine Ev.iret (ty := .int) rfl rfl rfl (Nat.le_refl _) (Nat.le_refl _) ?_
  have hK : (K_feed T a b c e f) = (nI (tN (K_write (K_write (K_write (K_write (K_write T a) b) c) e) f)), K_write (K_write (K_write (K_write (K_write T a) b) c) e) f) := by rfl
  rw [← hQ]
  dsimp only
  rw [hK]
  exact ⟨rfl, fr, hT⟩
def K_feedno  : Int32 := (-1 : Int32)
theorem feed_no (hX : isX σ x) (hT : isT σ (x + 1) T) (hw : wT T) (hn : 600 < tN T + 20) (a b c e f : Int32) : RetV Γ m_SD_feed [(.ref x), (.int a), (.int b), (.int c), (.int e), (.int f)] σ (.int (K_feedno)) := by
  obtain ⟨t0, t1, ⟨ts, t2, t3⟩, ⟨tp, t4, t5⟩, t6, t7⟩ := id hT
  have hw0 := hw.1
  unfold RetV
  generalize hQ : (fun (r : Option Value) (σ' : ex_S) => r = some ((.int (K_feedno)) : Value) ∧ σ' = σ) = Q
  refine Ret.start pm_2 rfl ?_
  refine Ev.aload_n rfl rfl ?_
  refine Ev.getf rfl rfl hX rfl ?_
  refine Ev.getf rfl rfl t0 rfl ?_
  refine Ev.bipush (v := 20) rfl (by decide) ?_
  refine Ev.iadd rfl ?_
  rw [show (nI (tN T)) + (20 : Int32) = nI (tN T + 20) from (nq_add (a := tN T) (b := 20) rfl (rfl : (20 : Int32) = nI 20))]
  refine Ev.sipush (v := 600) rfl (by decide) ?_
  refine Ev.jle (tgt := 18) rfl (by decide) (fun c13 => absurd (nI_lt (a := 600) hn (by omega)) c13) (fun c13 => ?_)
  refine Ev.iconst (v := (-1)) rfl (by decide) ?_
  refine Ev.iret (ty := .int) rfl rfl rfl (Nat.le_refl _) (Nat.le_refl _) ?_
  rw [← hQ]
  refine ⟨congrArg (fun v => some (Value.int v)) (Eq.symm ?_), rfl⟩
  rfl
def F_m_feed_20 (T : Tol) (A : Nat → Int32) (a b c e f : Int32) : Nat → (Nat → Int32) → (Nat → Int32) := fun k z => if (nI k) < (4 : Int32) then (upd (upd z (10 + (tN T + k)) ((a >>> (((24 : Int32) - ((8 : Int32) * ((nI k) - (nI k) / (4 : Int32) * (4 : Int32)))) &&& 31)) &&& (255 : Int32))) 2 (((upd z (10 + (tN T + k)) ((a >>> (((24 : Int32) - ((8 : Int32) * ((nI k) - (nI k) / (4 : Int32) * (4 : Int32)))) &&& 31)) &&& (255 : Int32))) 2) + (1 : Int32))) else (if (nI k) < (8 : Int32) then (upd (upd z (10 + (tN T + k)) ((b >>> (((24 : Int32) - ((8 : Int32) * ((nI k) - (nI k) / (4 : Int32) * (4 : Int32)))) &&& 31)) &&& (255 : Int32))) 2 (((upd z (10 + (tN T + k)) ((b >>> (((24 : Int32) - ((8 : Int32) * ((nI k) - (nI k) / (4 : Int32) * (4 : Int32)))) &&& 31)) &&& (255 : Int32))) 2) + (1 : Int32))) else (if (nI k) < (12 : Int32) then (upd (upd z (10 + (tN T + k)) ((c >>> (((24 : Int32) - ((8 : Int32) * ((nI k) - (nI k) / (4 : Int32) * (4 : Int32)))) &&& 31)) &&& (255 : Int32))) 2 (((upd z (10 + (tN T + k)) ((c >>> (((24 : Int32) - ((8 : Int32) * ((nI k) - (nI k) / (4 : Int32) * (4 : Int32)))) &&& 31)) &&& (255 : Int32))) 2) + (1 : Int32))) else (if (nI k) < (16 : Int32) then (upd (upd z (10 + (tN T + k)) ((e >>> (((24 : Int32) - ((8 : Int32) * ((nI k) - (nI k) / (4 : Int32) * (4 : Int32)))) &&& 31)) &&& (255 : Int32))) 2 (((upd z (10 + (tN T + k)) ((e >>> (((24 : Int32) - ((8 : Int32) * ((nI k) - (nI k) / (4 : Int32) * (4 : Int32)))) &&& 31)) &&& (255 : Int32))) 2) + (1 : Int32))) else (upd (upd z (10 + (tN T + k)) ((f >>> (((24 : Int32) - ((8 : Int32) * ((nI k) - (nI k) / (4 : Int32) * (4 : Int32)))) &&& 31)) &&& (255 : Int32))) 2 (((upd z (10 + (tN T + k)) ((f >>> (((24 : Int32) - ((8 : Int32) * ((nI k) - (nI k) / (4 : Int32) * (4 : Int32)))) &&& 31)) &&& (255 : Int32))) 2) + (1 : Int32))))))
def K_m_feed (T : Tol) (A : Nat → Int32) (a b c e f : Int32) : Int32 × (Nat → Int32) := ((fo (F_m_feed_20 T A a b c e f) (20) 0 A) 2, (fo (F_m_feed_20 T A a b c e f) (20) 0 A))
theorem m_feed_yes (hM : isM σ y g A) (hT : mT A 0 T) (hn : tN T + 20 ≤ 600) (a b c e f : Int32) : RetX Γ m_M_feed [(.ref y), (.int a), (.int b), (.int c), (.int e), (.int f)] σ (y + 1) (y + 2) (some (.int ((K_m_feed T A a b c e f).1))) (fun τ => τ.2 (y + 1) = some (.inl (0, 4500, (K_m_feed T A a b c e f).2))) := by
  obtain ⟨m00, m1⟩ := id hM
  have a2 : A 2 = nI (tN T) := by simpa using hT.2.2.1
  unfold RetX
  generalize hQ : (fun (r : Option Value) (τ : ex_S) => r = some (.int ((K_m_feed T A a b c e f).1)) ∧ frm σ τ (y + 1) (y + 2) ∧ (fun τ : ex_S => τ.2 (y + 1) = some (.inl (0, 4500, (K_m_feed T A a b c e f).2))) τ) = Q
  refine Ret.start pm_164 rfl ?_
  have fr : frm σ σ (y + 1) (y + 2) := frm.rf
  have m0 := frm.cell fr m00 (by omega)
  refine Ev.aload_n rfl rfl ?_
  refine Ev.getf rfl rfl m0 rfl ?_
  refine Ev.iconst (v := 2) rfl (by decide) ?_
  refine Ev.ialdN (k := 2) rfl m1 (rfl : (2 : Int32) = nI 2) ⟨(by omega), by decide⟩ ?_
  refine Ev.bipush (v := 20) rfl (by decide) ?_
  refine Ev.iadd rfl ?_
  refine Ev.sipush (v := 600) rfl (by decide) ?_
  refine Ev.jle (tgt := 17) rfl (by decide) (fun c12 => ?_) (fun c12 => absurd c12 (by rw [a2]; exact fun q => absurd q (by rw [show nI (tN T) + 20 = nI (tN T + 20) from nI_add _ 20]; exact nI_nlt (a := 600) hn (by omega))))
  refine Ev.iconst (v := 0) rfl (by decide) ?_
  refine Ev.istore rfl rfl rfl ?_
  refine Ev.fg (L := [some (.ref y), some (.int a), some (.int b), some (.int c), some (.int e), some (.int f), some (.int (nI 0)), none]) ?_ (gs rfl (gs rfl (gs rfl (gs rfl (gs rfl (gs rfl (gs (congrArg Value.int (rfl : (0 : Int32) = nI 0).symm) (gn gz))))))))
  refine lp (fun (k : Nat) (z : (Nat → Int32)) => (z 2 = nI (tN T + k)) → ∀ τ' : ex_S, frm σ τ' (y + 1) (y + 2) → τ'.2 (y + 1) = some (.inl (0, 4500, z)) → Ev Γ 0 0 m_M_feed 0 0 20 [some (.ref y), some (.int a), some (.int b), some (.int c), some (.int e), some (.int f), some (.int (nI k)), none] [] τ' Q) (F_m_feed_20 T A a b c e f) (20) (fun k z hk hx => ?_) (20) 0 A (by omega) ?_ (by rw [a2]; rfl) σ fr m1
  · skip
    intro hI
    intro τ' fr m1
    have m0 := frm.cell fr m00 (by omega)
    refine Ev.iload rfl rfl ?_
    refine Ev.bipush (v := 20) rfl (by decide) ?_
    refine Ev.jge (tgt := 122) rfl (by decide) (fun c24 => absurd (nI_lt hk (by omega)) c24) (fun c24 => ?_)
    refine Ev.iload rfl rfl ?_
    refine Ev.iconst (v := 4) rfl (by decide) ?_
    refine Ev.jge (tgt := 37) rfl (by decide) (fun c30 => ?_) (fun c30 => ?_)
    · skip
      refine Ev.iload rfl rfl ?_
      refine Ev.bipush (v := 8) rfl (by decide) ?_
      refine Ev.jge (tgt := 48) rfl (by decide) (fun c41 => ?_) (fun c41 => ?_)
      · skip
        refine Ev.iload rfl rfl ?_
        refine Ev.bipush (v := 12) rfl (by decide) ?_
        refine Ev.jge (tgt := 59) rfl (by decide) (fun c52 => ?_) (fun c52 => ?_)
        · skip
          refine Ev.iload rfl rfl ?_
          refine Ev.bipush (v := 16) rfl (by decide) ?_
          refine Ev.jge (tgt := 71) rfl (by decide) (fun c63 => ?_) (fun c63 => ?_)
          · skip
            refine Ev.iload rfl rfl ?_
            refine Ev.istore rfl rfl rfl ?_
            refine Ev.aload_n rfl rfl ?_
            refine Ev.getf rfl rfl m0 rfl ?_
            refine Ev.bipush (v := 10) rfl (by decide) ?_
            refine Ev.aload_n rfl rfl ?_
            refine Ev.getf rfl rfl m0 rfl ?_
            refine Ev.iconst (v := 2) rfl (by decide) ?_
            refine Ev.ialdN (k := 2) rfl m1 (rfl : (2 : Int32) = nI 2) ⟨(by omega), by decide⟩ ?_
            refine Ev.iadd rfl ?_
            refine Ev.iload rfl rfl ?_
            refine Ev.bipush (v := 24) rfl (by decide) ?_
            refine Ev.bipush (v := 8) rfl (by decide) ?_
            refine Ev.iload rfl rfl ?_
            refine Ev.iconst (v := 4) rfl (by decide) ?_
            refine Ev.irem rfl (by decide) ?_
            refine Ev.imul rfl ?_
            refine Ev.isub rfl ?_
            refine Ev.ishr rfl ?_
            refine Ev.sipush (v := 255) rfl (by decide) ?_
            refine Ev.iand rfl ?_
            refine Ev.iastE (k := 10 + (tN T + k)) rfl m1 (nq_add (a := 10) (b := tN T + k) (rfl : (10 : Int32) = nI 10) hI) ⟨(by omega), by decide⟩ (fun τ1 f1 m1 => ?_)
            have fr := fr.step f1 (by omega) (by omega)
            have m0 := frm.cell fr m00 (by omega)
            refine Ev.aload_n rfl rfl ?_
            refine Ev.getf rfl rfl m0 rfl ?_
            refine Ev.iconst (v := 2) rfl (by decide) ?_
            refine Ev.dup2 rfl rfl rfl ?_
            refine Ev.ialdN (k := 2) rfl m1 (rfl : (2 : Int32) = nI 2) ⟨(by omega), by decide⟩ ?_
            refine Ev.iconst (v := 1) rfl (by decide) ?_
            refine Ev.iadd rfl ?_
            refine Ev.iastE (k := 2) rfl m1 (rfl : (2 : Int32) = nI 2) ⟨(by omega), by decide⟩ (fun τ2 f1 m1 => ?_)
            have fr := fr.step f1 (by omega) (by omega)
            have m0 := frm.cell fr m00 (by omega)
            refine Ev.iinc (d := 1) rfl rfl rfl (by decide) rfl ?_
            refine Ev.goto (tgt := 20) rfl (by decide) ?_
            have hF : (F_m_feed_20 T A a b c e f) k z = (upd (upd z (10 + (tN T + k)) ((f >>> (((24 : Int32) - ((8 : Int32) * ((nI k) - (nI k) / (4 : Int32) * (4 : Int32)))) &&& 31)) &&& (255 : Int32))) 2 (((upd z (10 + (tN T + k)) ((f >>> (((24 : Int32) - ((8 : Int32) * ((nI k) - (nI k) / (4 : Int32) * (4 : Int32)))) &&& 31)) &&& (255 : Int32))) 2) + (1 : Int32))) := by
              unfold F_m_feed_20
              rw [if_neg c30]
              rw [if_neg c41]
              rw [if_neg c52]
              rw [if_neg c63]
            rw [hF] at hx
            exact (hx (by show ((upd (upd z (10 + (tN T + k)) ((f >>> (((24 : Int32) - ((8 : Int32) * ((nI k) - (nI k) / (4 : Int32) * (4 : Int32)))) &&& 31)) &&& (255 : Int32))) 2 (((upd z (10 + (tN T + k)) ((f >>> (((24 : Int32) - ((8 : Int32) * ((nI k) - (nI k) / (4 : Int32) * (4 : Int32)))) &&& 31)) &&& (255 : Int32))) 2) + (1 : Int32))) 2 = nI (tN T + k + 1)); (first | (rw [pk_us, pk_un (by omega), hI, nI_1]; rfl) | (rw [pk_us, pk_un (by omega), hI]; exact nI_1 _))) τ2 fr m1).fg (gs rfl (gs rfl (gs rfl (gs rfl (gs rfl (gs rfl (gs (congrArg Value.int (show nI (k + 1) = (nI k) + (1 : Int32) from (nq_to (a := k + 1) (nq_add (a := k) (b := 1) rfl (rfl : (1 : Int32) = nI 1)) (by omega)).symm)) (gn gz))))))))
          · skip
            refine Ev.iload rfl rfl ?_
            refine Ev.goto (tgt := 73) rfl (by decide) ?_
            refine Ev.istore rfl rfl rfl ?_
            refine Ev.aload_n rfl rfl ?_
            refine Ev.getf rfl rfl m0 rfl ?_
            refine Ev.bipush (v := 10) rfl (by decide) ?_
            refine Ev.aload_n rfl rfl ?_
            refine Ev.getf rfl rfl m0 rfl ?_
            refine Ev.iconst (v := 2) rfl (by decide) ?_
            refine Ev.ialdN (k := 2) rfl m1 (rfl : (2 : Int32) = nI 2) ⟨(by omega), by decide⟩ ?_
            refine Ev.iadd rfl ?_
            refine Ev.iload rfl rfl ?_
            refine Ev.bipush (v := 24) rfl (by decide) ?_
            refine Ev.bipush (v := 8) rfl (by decide) ?_
            refine Ev.iload rfl rfl ?_
            refine Ev.iconst (v := 4) rfl (by decide) ?_
            refine Ev.irem rfl (by decide) ?_
            refine Ev.imul rfl ?_
            refine Ev.isub rfl ?_
            refine Ev.ishr rfl ?_
            refine Ev.sipush (v := 255) rfl (by decide) ?_
            refine Ev.iand rfl ?_
            refine Ev.iastE (k := 10 + (tN T + k)) rfl m1 (nq_add (a := 10) (b := tN T + k) (rfl : (10 : Int32) = nI 10) hI) ⟨(by omega), by decide⟩ (fun τ3 f1 m1 => ?_)
            have fr := fr.step f1 (by omega) (by omega)
            have m0 := frm.cell fr m00 (by omega)
            refine Ev.aload_n rfl rfl ?_
            refine Ev.getf rfl rfl m0 rfl ?_
            refine Ev.iconst (v := 2) rfl (by decide) ?_
            refine Ev.dup2 rfl rfl rfl ?_
            refine Ev.ialdN (k := 2) rfl m1 (rfl : (2 : Int32) = nI 2) ⟨(by omega), by decide⟩ ?_
            refine Ev.iconst (v := 1) rfl (by decide) ?_
            refine Ev.iadd rfl ?_
            refine Ev.iastE (k := 2) rfl m1 (rfl : (2 : Int32) = nI 2) ⟨(by omega), by decide⟩ (fun τ4 f1 m1 => ?_)
            have fr := fr.step f1 (by omega) (by omega)
            have m0 := frm.cell fr m00 (by omega)
            refine Ev.iinc (d := 1) rfl rfl rfl (by decide) rfl ?_
            refine Ev.goto (tgt := 20) rfl (by decide) ?_
            have hF : (F_m_feed_20 T A a b c e f) k z = (upd (upd z (10 + (tN T + k)) ((e >>> (((24 : Int32) - ((8 : Int32) * ((nI k) - (nI k) / (4 : Int32) * (4 : Int32)))) &&& 31)) &&& (255 : Int32))) 2 (((upd z (10 + (tN T + k)) ((e >>> (((24 : Int32) - ((8 : Int32) * ((nI k) - (nI k) / (4 : Int32) * (4 : Int32)))) &&& 31)) &&& (255 : Int32))) 2) + (1 : Int32))) := by
              unfold F_m_feed_20
              rw [if_neg c30]
              rw [if_neg c41]
              rw [if_neg c52]
              rw [if_pos c63]
            rw [hF] at hx
            exact (hx (by show ((upd (upd z (10 + (tN T + k)) ((e >>> (((24 : Int32) - ((8 : Int32) * ((nI k) - (nI k) / (4 : Int32) * (4 : Int32)))) &&& 31)) &&& (255 : Int32))) 2 (((upd z (10 + (tN T + k)) ((e >>> (((24 : Int32) - ((8 : Int32) * ((nI k) - (nI k) / (4 : Int32) * (4 : Int32)))) &&& 31)) &&& (255 : Int32))) 2) + (1 : Int32))) 2 = nI (tN T + k + 1)); (first | (rw [pk_us, pk_un (by omega), hI, nI_1]; rfl) | (rw [pk_us, pk_un (by omega), hI]; exact nI_1 _))) τ4 fr m1).fg (gs rfl (gs rfl (gs rfl (gs rfl (gs rfl (gs rfl (gs (congrArg Value.int (show nI (k + 1) = (nI k) + (1 : Int32) from (nq_to (a := k + 1) (nq_add (a := k) (b := 1) rfl (rfl : (1 : Int32) = nI 1)) (by omega)).symm)) (gn gz))))))))
        · skip
          refine Ev.iload_n rfl rfl ?_
          refine Ev.goto (tgt := 73) rfl (by decide) ?_
          refine Ev.istore rfl rfl rfl ?_
          refine Ev.aload_n rfl rfl ?_
          refine Ev.getf rfl rfl m0 rfl ?_
          refine Ev.bipush (v := 10) rfl (by decide) ?_
          refine Ev.aload_n rfl rfl ?_
          refine Ev.getf rfl rfl m0 rfl ?_
          refine Ev.iconst (v := 2) rfl (by decide) ?_
          refine Ev.ialdN (k := 2) rfl m1 (rfl : (2 : Int32) = nI 2) ⟨(by omega), by decide⟩ ?_
          refine Ev.iadd rfl ?_
          refine Ev.iload rfl rfl ?_
          refine Ev.bipush (v := 24) rfl (by decide) ?_
          refine Ev.bipush (v := 8) rfl (by decide) ?_
          refine Ev.iload rfl rfl ?_
          refine Ev.iconst (v := 4) rfl (by decide) ?_
          refine Ev.irem rfl (by decide) ?_
          refine Ev.imul rfl ?_
          refine Ev.isub rfl ?_
          refine Ev.ishr rfl ?_
          refine Ev.sipush (v := 255) rfl (by decide) ?_
          refine Ev.iand rfl ?_
          refine Ev.iastE (k := 10 + (tN T + k)) rfl m1 (nq_add (a := 10) (b := tN T + k) (rfl : (10 : Int32) = nI 10) hI) ⟨(by omega), by decide⟩ (fun τ5 f1 m1 => ?_)
          have fr := fr.step f1 (by omega) (by omega)
          have m0 := frm.cell fr m00 (by omega)
          refine Ev.aload_n rfl rfl ?_
          refine Ev.getf rfl rfl m0 rfl ?_
          refine Ev.iconst (v := 2) rfl (by decide) ?_
          refine Ev.dup2 rfl rfl rfl ?_
          refine Ev.ialdN (k := 2) rfl m1 (rfl : (2 : Int32) = nI 2) ⟨(by omega), by decide⟩ ?_
          refine Ev.iconst (v := 1) rfl (by decide) ?_
          refine Ev.iadd rfl ?_
          refine Ev.iastE (k := 2) rfl m1 (rfl : (2 : Int32) = nI 2) ⟨(by omega), by decide⟩ (fun τ6 f1 m1 => ?_)
          have fr := fr.step f1 (by omega) (by omega)
          have m0 := frm.cell fr m00 (by omega)
          refine Ev.iinc (d := 1) rfl rfl rfl (by decide) rfl ?_
          refine Ev.goto (tgt := 20) rfl (by decide) ?_
          have hF : (F_m_feed_20 T A a b c e f) k z = (upd (upd z (10 + (tN T + k)) ((c >>> (((24 : Int32) - ((8 : Int32) * ((nI k) - (nI k) / (4 : Int32) * (4 : Int32)))) &&& 31)) &&& (255 : Int32))) 2 (((upd z (10 + (tN T + k)) ((c >>> (((24 : Int32) - ((8 : Int32) * ((nI k) - (nI k) / (4 : Int32) * (4 : Int32)))) &&& 31)) &&& (255 : Int32))) 2) + (1 : Int32))) := by
            unfold F_m_feed_20
            rw [if_neg c30]
            rw [if_neg c41]
            rw [if_pos c52]
          rw [hF] at hx
          exact (hx (by show ((upd (upd z (10 + (tN T + k)) ((c >>> (((24 : Int32) - ((8 : Int32) * ((nI k) - (nI k) / (4 : Int32) * (4 : Int32)))) &&& 31)) &&& (255 : Int32))) 2 (((upd z (10 + (tN T + k)) ((c >>> (((24 : Int32) - ((8 : Int32) * ((nI k) - (nI k) / (4 : Int32) * (4 : Int32)))) &&& 31)) &&& (255 : Int32))) 2) + (1 : Int32))) 2 = nI (tN T + k + 1)); (first | (rw [pk_us, pk_un (by omega), hI, nI_1]; rfl) | (rw [pk_us, pk_un (by omega), hI]; exact nI_1 _))) τ6 fr m1).fg (gs rfl (gs rfl (gs rfl (gs rfl (gs rfl (gs rfl (gs (congrArg Value.int (show nI (k + 1) = (nI k) + (1 : Int32) from (nq_to (a := k + 1) (nq_add (a := k) (b := 1) rfl (rfl : (1 : Int32) = nI 1)) (by omega)).symm)) (gn gz))))))))
      · skip
        refine Ev.iload_n rfl rfl ?_
        refine Ev.goto (tgt := 73) rfl (by decide) ?_
        refine Ev.istore rfl rfl rfl ?_
        refine Ev.aload_n rfl rfl ?_
        refine Ev.getf rfl rfl m0 rfl ?_
        refine Ev.bipush (v := 10) rfl (by decide) ?_
        refine Ev.aload_n rfl rfl ?_
        refine Ev.getf rfl rfl m0 rfl ?_
        refine Ev.iconst (v := 2) rfl (by decide) ?_
        refine Ev.ialdN (k := 2) rfl m1 (rfl : (2 : Int32) = nI 2) ⟨(by omega), by decide⟩ ?_
        refine Ev.iadd rfl ?_
        refine Ev.iload rfl rfl ?_
        refine Ev.bipush (v := 24) rfl (by decide) ?_
        refine Ev.bipush (v := 8) rfl (by decide) ?_
        refine Ev.iload rfl rfl ?_
        refine Ev.iconst (v := 4) rfl (by decide) ?_
        refine Ev.irem rfl (by decide) ?_
        refine Ev.imul rfl ?_
        refine Ev.isub rfl ?_
        refine Ev.ishr rfl ?_
        refine Ev.sipush (v := 255) rfl (by decide) ?_
        refine Ev.iand rfl ?_
        refine Ev.iastE (k := 10 + (tN T + k)) rfl m1 (nq_add (a := 10) (b := tN T + k) (rfl : (10 : Int32) = nI 10) hI) ⟨(by omega), by decide⟩ (fun τ7 f1 m1 => ?_)
        have fr := fr.step f1 (by omega) (by omega)
        have m0 := frm.cell fr m00 (by omega)
        refine Ev.aload_n rfl rfl ?_
        refine Ev.getf rfl rfl m0 rfl ?_
        refine Ev.iconst (v := 2) rfl (by decide) ?_
        refine Ev.dup2 rfl rfl rfl ?_
        refine Ev.ialdN (k := 2) rfl m1 (rfl : (2 : Int32) = nI 2) ⟨(by omega), by decide⟩ ?_
        refine Ev.iconst (v := 1) rfl (by decide) ?_
        refine Ev.iadd rfl ?_
        refine Ev.iastE (k := 2) rfl m1 (rfl : (2 : Int32) = nI 2) ⟨(by omega), by decide⟩ (fun τ8 f1 m1 => ?_)
        have fr := fr.step f1 (by omega) (by omega)
        have m0 := frm.cell fr m00 (by omega)
        refine Ev.iinc (d := 1) rfl rfl rfl (by decide) rfl ?_
        refine Ev.goto (tgt := 20) rfl (by decide) ?_
        have hF : (F_m_feed_20 T A a b c e f) k z = (upd (upd z (10 + (tN T + k)) ((b >>> (((24 : Int32) - ((8 : Int32) * ((nI k) - (nI k) / (4 : Int32) * (4 : Int32)))) &&& 31)) &&& (255 : Int32))) 2 (((upd z (10 + (tN T + k)) ((b >>> (((24 : Int32) - ((8 : Int32) * ((nI k) - (nI k) / (4 : Int32) * (4 : Int32)))) &&& 31)) &&& (255 : Int32))) 2) + (1 : Int32))) := by
          unfold F_m_feed_20
          rw [if_neg c30]
          rw [if_pos c41]
        rw [hF] at hx
        exact (hx (by show ((upd (upd z (10 + (tN T + k)) ((b >>> (((24 : Int32) - ((8 : Int32) * ((nI k) - (nI k) / (4 : Int32) * (4 : Int32)))) &&& 31)) &&& (255 : Int32))) 2 (((upd z (10 + (tN T + k)) ((b >>> (((24 : Int32) - ((8 : Int32) * ((nI k) - (nI k) / (4 : Int32) * (4 : Int32)))) &&& 31)) &&& (255 : Int32))) 2) + (1 : Int32))) 2 = nI (tN T + k + 1)); (first | (rw [pk_us, pk_un (by omega), hI, nI_1]; rfl) | (rw [pk_us, pk_un (by omega), hI]; exact nI_1 _))) τ8 fr m1).fg (gs rfl (gs rfl (gs rfl (gs rfl (gs rfl (gs rfl (gs (congrArg Value.int (show nI (k + 1) = (nI k) + (1 : Int32) from (nq_to (a := k + 1) (nq_add (a := k) (b := 1) rfl (rfl : (1 : Int32) = nI 1)) (by omega)).symm)) (gn gz))))))))
    · skip
      refine Ev.iload_n rfl rfl ?_
      refine Ev.goto (tgt := 73) rfl (by decide) ?_
      refine Ev.istore rfl rfl rfl ?_
      refine Ev.aload_n rfl rfl ?_
      refine Ev.getf rfl rfl m0 rfl ?_
      refine Ev.bipush (v := 10) rfl (by decide) ?_
      refine Ev.aload_n rfl rfl ?_
      refine Ev.getf rfl rfl m0 rfl ?_
      refine Ev.iconst (v := 2) rfl (by decide) ?_
      refine Ev.ialdN (k := 2) rfl m1 (rfl : (2 : Int32) = nI 2) ⟨(by omega), by decide⟩ ?_
      refine Ev.iadd rfl ?_
      refine Ev.iload rfl rfl ?_
      refine Ev.bipush (v := 24) rfl (by decide) ?_
      refine Ev.bipush (v := 8) rfl (by decide) ?_
      refine Ev.iload rfl rfl ?_
      refine Ev.iconst (v := 4) rfl (by decide) ?_
      refine Ev.irem rfl (by decide) ?_
      refine Ev.imul rfl ?_
      refine Ev.isub rfl ?_
      refine Ev.ishr rfl ?_
      refine Ev.sipush (v := 255) rfl (by decide) ?_
      refine Ev.iand rfl ?_
      refine Ev.iastE (k := 10 + (tN T + k)) rfl m1 (nq_add (a := 10) (b := tN T + k) (rfl : (10 : Int32) = nI 10) hI) ⟨(by omega), by decide⟩ (fun τ9 f1 m1 => ?_)
      have fr := fr.step f1 (by omega) (by omega)
      have m0 := frm.cell fr m00 (by omega)
      refine Ev.aload_n rfl rfl ?_
      refine Ev.getf rfl rfl m0 rfl ?_
      refine Ev.iconst (v := 2) rfl (by decide) ?_
      refine Ev.dup2 rfl rfl rfl ?_
      refine Ev.ialdN (k := 2) rfl m1 (rfl : (2 : Int32) = nI 2) ⟨(by omega), by decide⟩ ?_
      refine Ev.iconst (v := 1) rfl (by decide) ?_
      refine Ev.iadd rfl ?_
      refine Ev.iastE (k := 2) rfl m1 (rfl : (2 : Int32) = nI 2) ⟨(by omega), by decide⟩ (fun τ10 f1 m1 => ?_)
      have fr := fr.step f1 (by omega) (by omega)
      have m0 := frm.cell fr m00 (by omega)
      refine Ev.iinc (d := 1) rfl rfl rfl (by decide) rfl ?_
      refine Ev.goto (tgt := 20) rfl (by decide) ?_
      have hF : (F_m_feed_20 T A a b c e f) k z = (upd (upd z (10 + (tN T + k)) ((a >>> (((24 : Int32) - ((8 : Int32) * ((nI k) - (nI k) / (4 : Int32) * (4 : Int32)))) &&& 31)) &&& (255 : Int32))) 2 (((upd z (10 + (tN T + k)) ((a >>> (((24 : Int32) - ((8 : Int32) * ((nI k) - (nI k) / (4 : Int32) * (4 : Int32)))) &&& 31)) &&& (255 : Int32))) 2) + (1 : Int32))) := by
        unfold F_m_feed_20
        rw [if_pos c30]
      rw [hF] at hx
      exact (hx (by show ((upd (upd z (10 + (tN T + k)) ((a >>> (((24 : Int32) - ((8 : Int32) * ((nI k) - (nI k) / (4 : Int32) * (4 : Int32)))) &&& 31)) &&& (255 : Int32))) 2 (((upd z (10 + (tN T + k)) ((a >>> (((24 : Int32) - ((8 : Int32) * ((nI k) - (nI k) / (4 : Int32) * (4 : Int32)))) &&& 31)) &&& (255 : Int32))) 2) + (1 : Int32))) 2 = nI (tN T + k + 1)); (first | (rw [pk_us, pk_un (by omega), hI, nI_1]; rfl) | (rw [pk_us, pk_un (by omega), hI]; exact nI_1 _))) τ10 fr m1).fg (gs rfl (gs rfl (gs rfl (gs rfl (gs rfl (gs rfl (gs (congrArg Value.int (show nI (k + 1) = (nI k) + (1 : Int32) from (nq_to (a := k + 1) (nq_add (a := k) (b := 1) rfl (rfl : (1 : Int32) = nI 1)) (by omega)).symm)) (gn gz))))))))
  · skip
    intro hI
    intro τ' fr m1
    have m0 := frm.cell fr m00 (by omega)
    refine Ev.iload rfl rfl ?_
    refine Ev.bipush (v := 20) rfl (by decide) ?_
    refine Ev.jge (tgt := 122) rfl (by decide) (fun c24 => ?_) (fun c24 => absurd c24 (nI_nlt (Nat.le_refl _) (by omega)))
    refine Ev.aload_n rfl rfl ?_
    refine Ev.getf rfl rfl m0 rfl ?_
    refine Ev.iconst (v := 2) rfl (by decide) ?_
    refine Ev.ialdN (k := 2) rfl m1 (rfl : (2 : Int32) = nI 2) ⟨(by omega), by decide⟩ ?_
    refine Ev.iret (ty := .int) rfl rfl rfl (Nat.le_refl _) (Nat.le_refl _) ?_
    have hK : (K_m_feed T A a b c e f) = ((fo (F_m_feed_20 T A a b c e f) (20) 0 A) 2, (fo (F_m_feed_20 T A a b c e f) (20) 0 A)) := by rfl
    rw [← hQ]
    dsimp only
    rw [hK]
    exact ⟨rfl, fr, m1⟩
def K_m_feedno  : Int32 := (-1 : Int32)
theorem m_feed_no (hM : isM σ y g A) (hT : mT A 0 T) (hw : wT T) (hn : 600 < tN T + 20) (a b c e f : Int32) : RetV Γ m_M_feed [(.ref y), (.int a), (.int b), (.int c), (.int e), (.int f)] σ (.int (K_m_feedno)) := by
  obtain ⟨m0, m1⟩ := id hM
  have a2 : A 2 = nI (tN T) := by simpa using hT.2.2.1
  have hw0 := hw.1
  unfold RetV
  generalize hQ : (fun (r : Option Value) (σ' : ex_S) => r = some ((.int (K_m_feedno)) : Value) ∧ σ' = σ) = Q
  refine Ret.start pm_164 rfl ?_
  refine Ev.aload_n rfl rfl ?_
  refine Ev.getf rfl rfl m0 rfl ?_
  refine Ev.iconst (v := 2) rfl (by decide) ?_
  refine Ev.ialdN (k := 2) rfl m1 (rfl : (2 : Int32) = nI 2) ⟨(by omega), by decide⟩ ?_
  refine Ev.bipush (v := 20) rfl (by decide) ?_
  refine Ev.iadd rfl ?_
  refine Ev.sipush (v := 600) rfl (by decide) ?_
  refine Ev.jle (tgt := 17) rfl (by decide) (fun c12 => absurd (show (600 : Int32) < A 2 + 20 from by rw [a2, show nI (tN T) + 20 = nI (tN T + 20) from nI_add _ 20]; exact nI_lt (a := 600) hn (by omega)) c12) (fun c12 => ?_)
  refine Ev.iconst (v := (-1)) rfl (by decide) ?_
  refine Ev.iret (ty := .int) rfl rfl rfl (Nat.le_refl _) (Nat.le_refl _) ?_
  rw [← hQ]
  refine ⟨congrArg (fun v => some (Value.int v)) (Eq.symm ?_), rfl⟩
  rfl
end
end
