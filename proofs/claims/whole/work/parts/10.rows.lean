/-! Ev: from a frame at pc of method mi, with these locals, this stack and this store, the method comes to its end with Q. -/
noncomputable section
theorem ex_lookup {α : Type} : ∀ (l : List (Nat × α)) (k : Nat) (b : α), l.lookup k = some b → (k, b) ∈ l := by
  intro l
  induction l with
  | nil => intro k b h; cases h
  | cons x r ih =>
    intro k b h
    obtain ⟨y, c⟩ := x
    rw [List.lookup_cons] at h
    by_cases hk : k = y
    · subst hk
      simp at h
      rw [h]
      exact List.mem_cons_self
    · have hb : (k == y) = false := by simpa using hk
      rw [hb] at h
      exact List.mem_cons_of_mem _ (ih k b h)
/-- the method's own surroundings -/
def ex_X (Γ : ex_G) (mi : Nat) (p : Program) (R : Room) (s : State) (m : MethodId) (args : Array Value) (meth : Method) (c : Code) : Prop :=
  p.tables.exec = Jvm.exec ∧ c.code = pg_b mi ∧ meth.sig.returnType = pg_rt mi ∧ c.maxLocals = pg_ml mi ∧ s.vm.findClass (pg_on (pg_oi mi)) = some m.cls ∧ (∀ w ∈ lw_g, w.before args s = true) ∧ meth.locks = false ∧ ((pg_y mi).name = "<init>" → meth.name = "<init>") ∧ pg_fr mi ≤ R.frames ∧ pg_lo mi ≤ R.locals ∧ ex_I Γ s ∧ ∀ pc i n, pg_ins mi pc = some (i, n) → decode (pg_b mi) pc = .ok (i, n)
/-- how a method ends -/
def ex_ret (mi : Nat) (v : Option Value) (pc : Nat) : Prop :=
  (v = none ∧ pg_rt mi = none ∧ pg_ins mi pc = some (.return_, 1)) ∨
  (∃ x ty, v = some (.int x) ∧ pg_rt mi = some ty ∧ narrow ty (.int x) = .int x ∧ pg_ins mi pc = some (.ireturn, 1)) ∨
  (∃ x, v = some (.long x) ∧ pg_rt mi = some .long ∧ pg_ins mi pc = some (.lreturn, 1)) ∨
  (∃ w t, v = some w ∧ pg_rt mi = some t ∧ ((∃ n, t = .object n) ∨ ∃ u, t = .array u) ∧ (w = .null ∨ ∃ a, w = .ref a) ∧ pg_ins mi pc = some (.areturn, 1))
def Ev (Γ : ex_G) (RC RS mi cells slots pc : Nat) (L : ex_L) (st : List Value) (σ : ex_S) (Q : Option Value → ex_S → Prop) : Prop :=
  ∀ (p : Program) (l : Launch) (e : Env) (R : Room) (s : State) (m : MethodId) (args : Array Value) (below : List Frame) (meth : Method) (c : Code) (H : Heap) (locs : List Loc) (ls : Array Slot) (Z : State → Prop),
    ex_X Γ mi p R s m args meth c → R.cells = RC → R.slots = RS → ex_M Γ σ H → va_S (ex_A Γ) s.heap H locs → ex_Lo ls L → L.length = pg_ml mi →
    (∀ (v : Option Value) (σ' : ex_S) (H' : Heap) (locs' : List Loc) (ls' : Array Slot) (pc' : Nat), Q v σ' → ex_M Γ σ' H' → va_S (ex_A Γ) s.heap H' locs' → ex_ret mi v pc' → W p l e R s m args below meth c H' locs' RC RS Z (F0 m pc' ls' v.toList)) →
    W p l e R s m args below meth c H locs cells slots Z (F0 m pc ls st)
section
variable {Γ : ex_G} {RC RS mi cells slots pc : Nat} {L : ex_L} {st : List Value} {σ : ex_S} {Q : Option Value → ex_S → Prop}
theorem Ev.iconst {k : Int} {v : Int32} (hi : pg_ins mi pc = some (.iconst k, 1)) (hv : Int32.ofInt k = v) (h : Ev Γ RC RS mi cells slots (pc + 1) L (.int v :: st) σ Q) : Ev Γ RC RS mi cells slots pc L st σ Q := by
  intro p l e R s m args below meth c H locs ls Z X r1 r2 hM hS hL hn hZ
  exact lv_iconst X.1 X.2.1 (X.2.2.2.2.2.2.2.2.2.2.2 _ _ _ hi) hv (h p l e R s m args below meth c H locs ls Z X r1 r2 hM hS hL hn hZ)
theorem Ev.bipush {k : Int} {v : Int32} (hi : pg_ins mi pc = some (.bipush k, 2)) (hv : (Int8.ofInt k).toInt32 = v) (h : Ev Γ RC RS mi cells slots (pc + 2) L (.int v :: st) σ Q) : Ev Γ RC RS mi cells slots pc L st σ Q := by
  intro p l e R s m args below meth c H locs ls Z X r1 r2 hM hS hL hn hZ
  exact lv_bipush X.1 X.2.1 (X.2.2.2.2.2.2.2.2.2.2.2 _ _ _ hi) hv (h p l e R s m args below meth c H locs ls Z X r1 r2 hM hS hL hn hZ)
theorem Ev.sipush {k : Int} {v : Int32} (hi : pg_ins mi pc = some (.sipush k, 3)) (hv : (Int16.ofInt k).toInt32 = v) (h : Ev Γ RC RS mi cells slots (pc + 3) L (.int v :: st) σ Q) : Ev Γ RC RS mi cells slots pc L st σ Q := by
  intro p l e R s m args below meth c H locs ls Z X r1 r2 hM hS hL hn hZ
  exact lv_sipush X.1 X.2.1 (X.2.2.2.2.2.2.2.2.2.2.2 _ _ _ hi) hv (h p l e R s m args below meth c H locs ls Z X r1 r2 hM hS hL hn hZ)
theorem Ev.lconst {k : Fin 2} {v : Int64} (hi : pg_ins mi pc = some (.lconst k, 1)) (hv : Int64.ofNat (k : Nat) = v) (h : Ev Γ RC RS mi cells slots (pc + 1) L (.long v :: st) σ Q) : Ev Γ RC RS mi cells slots pc L st σ Q := by
  intro p l e R s m args below meth c H locs ls Z X r1 r2 hM hS hL hn hZ
  exact lv_lconst X.1 X.2.1 (X.2.2.2.2.2.2.2.2.2.2.2 _ _ _ hi) hv (h p l e R s m args below meth c H locs ls Z X r1 r2 hM hS hL hn hZ)
theorem Ev.null  (hi : pg_ins mi pc = some (.aconst_null, 1))  (h : Ev Γ RC RS mi cells slots (pc + 1) L (.null :: st) σ Q) : Ev Γ RC RS mi cells slots pc L st σ Q := by
  intro p l e R s m args below meth c H locs ls Z X r1 r2 hM hS hL hn hZ
  exact lv_null X.1 X.2.1 (X.2.2.2.2.2.2.2.2.2.2.2 _ _ _ hi)  (h p l e R s m args below meth c H locs ls Z X r1 r2 hM hS hL hn hZ)
theorem Ev.iload_n {k : Fin 4} {x : Int32} (hi : pg_ins mi pc = some (.iload_n k, 1)) (hl : L[(k : Nat)]? = some (some (.int x))) (h : Ev Γ RC RS mi cells slots (pc + 1) L (.int x :: st) σ Q) : Ev Γ RC RS mi cells slots pc L st σ Q := by
  intro p l e R s m args below meth c H locs ls Z X r1 r2 hM hS hL hn hZ
  exact lv_iload_n X.1 X.2.1 (X.2.2.2.2.2.2.2.2.2.2.2 _ _ _ hi) rfl (hL.at hl) (h p l e R s m args below meth c H locs ls Z X r1 r2 hM hS hL hn hZ)
theorem Ev.iload {i : Nat} {x : Int32} (hi : pg_ins mi pc = some (.iload i, 2)) (hl : L[i]? = some (some (.int x))) (h : Ev Γ RC RS mi cells slots (pc + 2) L (.int x :: st) σ Q) : Ev Γ RC RS mi cells slots pc L st σ Q := by
  intro p l e R s m args below meth c H locs ls Z X r1 r2 hM hS hL hn hZ
  exact lv_iload X.1 X.2.1 (X.2.2.2.2.2.2.2.2.2.2.2 _ _ _ hi) (hL.at hl) (h p l e R s m args below meth c H locs ls Z X r1 r2 hM hS hL hn hZ)
theorem Ev.lload_n {k : Fin 4} {x : Int64} (hi : pg_ins mi pc = some (.lload_n k, 1)) (hl : L[(k : Nat)]? = some (some (.long x))) (h : Ev Γ RC RS mi cells slots (pc + 1) L (.long x :: st) σ Q) : Ev Γ RC RS mi cells slots pc L st σ Q := by
  intro p l e R s m args below meth c H locs ls Z X r1 r2 hM hS hL hn hZ
  exact lv_lload_n X.1 X.2.1 (X.2.2.2.2.2.2.2.2.2.2.2 _ _ _ hi) rfl (hL.at hl) (h p l e R s m args below meth c H locs ls Z X r1 r2 hM hS hL hn hZ)
theorem Ev.lload {i : Nat} {x : Int64} (hi : pg_ins mi pc = some (.lload i, 2)) (hl : L[i]? = some (some (.long x))) (h : Ev Γ RC RS mi cells slots (pc + 2) L (.long x :: st) σ Q) : Ev Γ RC RS mi cells slots pc L st σ Q := by
  intro p l e R s m args below meth c H locs ls Z X r1 r2 hM hS hL hn hZ
  exact lv_lload X.1 X.2.1 (X.2.2.2.2.2.2.2.2.2.2.2 _ _ _ hi) (hL.at hl) (h p l e R s m args below meth c H locs ls Z X r1 r2 hM hS hL hn hZ)
theorem Ev.aload_n {k : Fin 4} {x : Nat} (hi : pg_ins mi pc = some (.aload_n k, 1)) (hl : L[(k : Nat)]? = some (some (.ref x))) (h : Ev Γ RC RS mi cells slots (pc + 1) L (.ref x :: st) σ Q) : Ev Γ RC RS mi cells slots pc L st σ Q := by
  intro p l e R s m args below meth c H locs ls Z X r1 r2 hM hS hL hn hZ
  exact lv_aload_n X.1 X.2.1 (X.2.2.2.2.2.2.2.2.2.2.2 _ _ _ hi) rfl (hL.at hl) (h p l e R s m args below meth c H locs ls Z X r1 r2 hM hS hL hn hZ)
theorem Ev.aload {i : Nat} {x : Nat} (hi : pg_ins mi pc = some (.aload i, 2)) (hl : L[i]? = some (some (.ref x))) (h : Ev Γ RC RS mi cells slots (pc + 2) L (.ref x :: st) σ Q) : Ev Γ RC RS mi cells slots pc L st σ Q := by
  intro p l e R s m args below meth c H locs ls Z X r1 r2 hM hS hL hn hZ
  exact lv_aload X.1 X.2.1 (X.2.2.2.2.2.2.2.2.2.2.2 _ _ _ hi) (hL.at hl) (h p l e R s m args below meth c H locs ls Z X r1 r2 hM hS hL hn hZ)
theorem Ev.aload_nN {k : Fin 4} (hi : pg_ins mi pc = some (.aload_n k, 1)) (hl : L[(k : Nat)]? = some (some .null)) (h : Ev Γ RC RS mi cells slots (pc + 1) L (.null :: st) σ Q) : Ev Γ RC RS mi cells slots pc L st σ Q := by
  intro p l e R s m args below meth c H locs ls Z X r1 r2 hM hS hL hn hZ
  exact lv_aload_nN X.1 X.2.1 (X.2.2.2.2.2.2.2.2.2.2.2 _ _ _ hi) rfl (hL.at hl) (h p l e R s m args below meth c H locs ls Z X r1 r2 hM hS hL hn hZ)
theorem Ev.aloadN {i : Nat} (hi : pg_ins mi pc = some (.aload i, 2)) (hl : L[i]? = some (some .null)) (h : Ev Γ RC RS mi cells slots (pc + 2) L (.null :: st) σ Q) : Ev Γ RC RS mi cells slots pc L st σ Q := by
  intro p l e R s m args below meth c H locs ls Z X r1 r2 hM hS hL hn hZ
  exact lv_aloadN X.1 X.2.1 (X.2.2.2.2.2.2.2.2.2.2.2 _ _ _ hi) (hL.at hl) (h p l e R s m args below meth c H locs ls Z X r1 r2 hM hS hL hn hZ)
theorem Ev.iadd {x y : Int32} (hi : pg_ins mi pc = some (.iadd, 1))  (h : Ev Γ RC RS mi cells slots (pc + 1) L (.int (x + y) :: st) σ Q) : Ev Γ RC RS mi cells slots pc L (.int y :: .int x :: st) σ Q := by
  intro p l e R s m args below meth c H locs ls Z X r1 r2 hM hS hL hn hZ
  exact lv_iadd X.1 X.2.1 (X.2.2.2.2.2.2.2.2.2.2.2 _ _ _ hi)  (h p l e R s m args below meth c H locs ls Z X r1 r2 hM hS hL hn hZ)
theorem Ev.isub {x y : Int32} (hi : pg_ins mi pc = some (.isub, 1))  (h : Ev Γ RC RS mi cells slots (pc + 1) L (.int (x - y) :: st) σ Q) : Ev Γ RC RS mi cells slots pc L (.int y :: .int x :: st) σ Q := by
  intro p l e R s m args below meth c H locs ls Z X r1 r2 hM hS hL hn hZ
  exact lv_isub X.1 X.2.1 (X.2.2.2.2.2.2.2.2.2.2.2 _ _ _ hi)  (h p l e R s m args below meth c H locs ls Z X r1 r2 hM hS hL hn hZ)
theorem Ev.imul {x y : Int32} (hi : pg_ins mi pc = some (.imul, 1))  (h : Ev Γ RC RS mi cells slots (pc + 1) L (.int (x * y) :: st) σ Q) : Ev Γ RC RS mi cells slots pc L (.int y :: .int x :: st) σ Q := by
  intro p l e R s m args below meth c H locs ls Z X r1 r2 hM hS hL hn hZ
  exact lv_imul X.1 X.2.1 (X.2.2.2.2.2.2.2.2.2.2.2 _ _ _ hi)  (h p l e R s m args below meth c H locs ls Z X r1 r2 hM hS hL hn hZ)
theorem Ev.iand {x y : Int32} (hi : pg_ins mi pc = some (.iand, 1))  (h : Ev Γ RC RS mi cells slots (pc + 1) L (.int (x &&& y) :: st) σ Q) : Ev Γ RC RS mi cells slots pc L (.int y :: .int x :: st) σ Q := by
  intro p l e R s m args below meth c H locs ls Z X r1 r2 hM hS hL hn hZ
  exact lv_iand X.1 X.2.1 (X.2.2.2.2.2.2.2.2.2.2.2 _ _ _ hi)  (h p l e R s m args below meth c H locs ls Z X r1 r2 hM hS hL hn hZ)
theorem Ev.ior {x y : Int32} (hi : pg_ins mi pc = some (.ior, 1))  (h : Ev Γ RC RS mi cells slots (pc + 1) L (.int (x ||| y) :: st) σ Q) : Ev Γ RC RS mi cells slots pc L (.int y :: .int x :: st) σ Q := by
  intro p l e R s m args below meth c H locs ls Z X r1 r2 hM hS hL hn hZ
  exact lv_ior X.1 X.2.1 (X.2.2.2.2.2.2.2.2.2.2.2 _ _ _ hi)  (h p l e R s m args below meth c H locs ls Z X r1 r2 hM hS hL hn hZ)
theorem Ev.ixor {x y : Int32} (hi : pg_ins mi pc = some (.ixor, 1))  (h : Ev Γ RC RS mi cells slots (pc + 1) L (.int (x ^^^ y) :: st) σ Q) : Ev Γ RC RS mi cells slots pc L (.int y :: .int x :: st) σ Q := by
  intro p l e R s m args below meth c H locs ls Z X r1 r2 hM hS hL hn hZ
  exact lv_ixor X.1 X.2.1 (X.2.2.2.2.2.2.2.2.2.2.2 _ _ _ hi)  (h p l e R s m args below meth c H locs ls Z X r1 r2 hM hS hL hn hZ)
theorem Ev.ishl {x y : Int32} (hi : pg_ins mi pc = some (.ishl, 1))  (h : Ev Γ RC RS mi cells slots (pc + 1) L (.int (x <<< (y &&& 31)) :: st) σ Q) : Ev Γ RC RS mi cells slots pc L (.int y :: .int x :: st) σ Q := by
  intro p l e R s m args below meth c H locs ls Z X r1 r2 hM hS hL hn hZ
  exact lv_ishl X.1 X.2.1 (X.2.2.2.2.2.2.2.2.2.2.2 _ _ _ hi)  (h p l e R s m args below meth c H locs ls Z X r1 r2 hM hS hL hn hZ)
theorem Ev.ishr {x y : Int32} (hi : pg_ins mi pc = some (.ishr, 1))  (h : Ev Γ RC RS mi cells slots (pc + 1) L (.int (x >>> (y &&& 31)) :: st) σ Q) : Ev Γ RC RS mi cells slots pc L (.int y :: .int x :: st) σ Q := by
  intro p l e R s m args below meth c H locs ls Z X r1 r2 hM hS hL hn hZ
  exact lv_ishr X.1 X.2.1 (X.2.2.2.2.2.2.2.2.2.2.2 _ _ _ hi)  (h p l e R s m args below meth c H locs ls Z X r1 r2 hM hS hL hn hZ)
theorem Ev.iushr {x y : Int32} (hi : pg_ins mi pc = some (.iushr, 1))  (h : Ev Γ RC RS mi cells slots (pc + 1) L (.int (x.toUInt32 >>> (y.toUInt32 &&& Int32.toUInt32 31)).toInt32 :: st) σ Q) : Ev Γ RC RS mi cells slots pc L (.int y :: .int x :: st) σ Q := by
  intro p l e R s m args below meth c H locs ls Z X r1 r2 hM hS hL hn hZ
  exact lv_iushr X.1 X.2.1 (X.2.2.2.2.2.2.2.2.2.2.2 _ _ _ hi) rfl (h p l e R s m args below meth c H locs ls Z X r1 r2 hM hS hL hn hZ)
theorem Ev.idiv {x y : Int32} (hi : pg_ins mi pc = some (.idiv, 1)) (h0 : ¬ y = 0) (h : Ev Γ RC RS mi cells slots (pc + 1) L (.int (x / y) :: st) σ Q) : Ev Γ RC RS mi cells slots pc L (.int y :: .int x :: st) σ Q := by
  intro p l e R s m args below meth c H locs ls Z X r1 r2 hM hS hL hn hZ
  exact lv_idiv X.1 X.2.1 (X.2.2.2.2.2.2.2.2.2.2.2 _ _ _ hi) h0 (h p l e R s m args below meth c H locs ls Z X r1 r2 hM hS hL hn hZ)
theorem Ev.irem {x y : Int32} (hi : pg_ins mi pc = some (.irem, 1)) (h0 : ¬ y = 0) (h : Ev Γ RC RS mi cells slots (pc + 1) L (.int (x - x / y * y) :: st) σ Q) : Ev Γ RC RS mi cells slots pc L (.int y :: .int x :: st) σ Q := by
  intro p l e R s m args below meth c H locs ls Z X r1 r2 hM hS hL hn hZ
  exact lv_irem X.1 X.2.1 (X.2.2.2.2.2.2.2.2.2.2.2 _ _ _ hi) h0 (h p l e R s m args below meth c H locs ls Z X r1 r2 hM hS hL hn hZ)
theorem Ev.ineg {x : Int32} (hi : pg_ins mi pc = some (.ineg, 1))  (h : Ev Γ RC RS mi cells slots (pc + 1) L (.int (-x) :: st) σ Q) : Ev Γ RC RS mi cells slots pc L (.int x :: st) σ Q := by
  intro p l e R s m args below meth c H locs ls Z X r1 r2 hM hS hL hn hZ
  exact lv_ineg X.1 X.2.1 (X.2.2.2.2.2.2.2.2.2.2.2 _ _ _ hi)  (h p l e R s m args below meth c H locs ls Z X r1 r2 hM hS hL hn hZ)
theorem Ev.i2l {x : Int32} (hi : pg_ins mi pc = some (.i2l, 1))  (h : Ev Γ RC RS mi cells slots (pc + 1) L (.long x.toInt64 :: st) σ Q) : Ev Γ RC RS mi cells slots pc L (.int x :: st) σ Q := by
  intro p l e R s m args below meth c H locs ls Z X r1 r2 hM hS hL hn hZ
  exact lv_i2l X.1 X.2.1 (X.2.2.2.2.2.2.2.2.2.2.2 _ _ _ hi) rfl (h p l e R s m args below meth c H locs ls Z X r1 r2 hM hS hL hn hZ)
theorem Ev.i2b {x : Int32} (hi : pg_ins mi pc = some (.i2b, 1))  (h : Ev Γ RC RS mi cells slots (pc + 1) L (.int x.toInt8.toInt32 :: st) σ Q) : Ev Γ RC RS mi cells slots pc L (.int x :: st) σ Q := by
  intro p l e R s m args below meth c H locs ls Z X r1 r2 hM hS hL hn hZ
  exact lv_i2b X.1 X.2.1 (X.2.2.2.2.2.2.2.2.2.2.2 _ _ _ hi) rfl (h p l e R s m args below meth c H locs ls Z X r1 r2 hM hS hL hn hZ)
theorem Ev.i2c {x : Int32} (hi : pg_ins mi pc = some (.i2c, 1))  (h : Ev Γ RC RS mi cells slots (pc + 1) L (.int (x.toUInt32 % 65536).toInt32 :: st) σ Q) : Ev Γ RC RS mi cells slots pc L (.int x :: st) σ Q := by
  intro p l e R s m args below meth c H locs ls Z X r1 r2 hM hS hL hn hZ
  exact lv_i2c X.1 X.2.1 (X.2.2.2.2.2.2.2.2.2.2.2 _ _ _ hi) rfl (h p l e R s m args below meth c H locs ls Z X r1 r2 hM hS hL hn hZ)
theorem Ev.ladd {x y : Int64} (hi : pg_ins mi pc = some (.ladd, 1))  (h : Ev Γ RC RS mi cells slots (pc + 1) L (.long (x + y) :: st) σ Q) : Ev Γ RC RS mi cells slots pc L (.long y :: .long x :: st) σ Q := by
  intro p l e R s m args below meth c H locs ls Z X r1 r2 hM hS hL hn hZ
  exact lv_ladd X.1 X.2.1 (X.2.2.2.2.2.2.2.2.2.2.2 _ _ _ hi)  (h p l e R s m args below meth c H locs ls Z X r1 r2 hM hS hL hn hZ)
theorem Ev.lsub {x y : Int64} (hi : pg_ins mi pc = some (.lsub, 1))  (h : Ev Γ RC RS mi cells slots (pc + 1) L (.long (x - y) :: st) σ Q) : Ev Γ RC RS mi cells slots pc L (.long y :: .long x :: st) σ Q := by
  intro p l e R s m args below meth c H locs ls Z X r1 r2 hM hS hL hn hZ
  exact lv_lsub X.1 X.2.1 (X.2.2.2.2.2.2.2.2.2.2.2 _ _ _ hi)  (h p l e R s m args below meth c H locs ls Z X r1 r2 hM hS hL hn hZ)
theorem Ev.lmul {x y : Int64} (hi : pg_ins mi pc = some (.lmul, 1))  (h : Ev Γ RC RS mi cells slots (pc + 1) L (.long (x * y) :: st) σ Q) : Ev Γ RC RS mi cells slots pc L (.long y :: .long x :: st) σ Q := by
  intro p l e R s m args below meth c H locs ls Z X r1 r2 hM hS hL hn hZ
  exact lv_lmul X.1 X.2.1 (X.2.2.2.2.2.2.2.2.2.2.2 _ _ _ hi)  (h p l e R s m args below meth c H locs ls Z X r1 r2 hM hS hL hn hZ)
theorem Ev.lcmp {x y : Int64} (hi : pg_ins mi pc = some (.lcmp, 1))  (h : Ev Γ RC RS mi cells slots (pc + 1) L (.int (lg_cmp x y) :: st) σ Q) : Ev Γ RC RS mi cells slots pc L (.long y :: .long x :: st) σ Q := by
  intro p l e R s m args below meth c H locs ls Z X r1 r2 hM hS hL hn hZ
  exact W.lcmp X.1 X.2.1 (X.2.2.2.2.2.2.2.2.2.2.2 _ _ _ hi)  (h p l e R s m args below meth c H locs ls Z X r1 r2 hM hS hL hn hZ)
theorem Ev.dup {v : Value} (hi : pg_ins mi pc = some (.dup, 1)) (hv : v.category = 1) (h : Ev Γ RC RS mi cells slots (pc + 1) L (v :: v :: st) σ Q) : Ev Γ RC RS mi cells slots pc L (v :: st) σ Q := by
  intro p l e R s m args below meth c H locs ls Z X r1 r2 hM hS hL hn hZ
  exact lv_dup X.1 X.2.1 (X.2.2.2.2.2.2.2.2.2.2.2 _ _ _ hi) hv (h p l e R s m args below meth c H locs ls Z X r1 r2 hM hS hL hn hZ)
theorem Ev.dup2 {v w : Value} (hi : pg_ins mi pc = some (.dup2, 1)) (hv : v.category = 1) (hw : w.category = 1) (h : Ev Γ RC RS mi cells slots (pc + 1) L (v :: w :: v :: w :: st) σ Q) : Ev Γ RC RS mi cells slots pc L (v :: w :: st) σ Q := by
  intro p l e R s m args below meth c H locs ls Z X r1 r2 hM hS hL hn hZ
  exact lv_dup2_11 X.1 X.2.1 (X.2.2.2.2.2.2.2.2.2.2.2 _ _ _ hi) hv hw (h p l e R s m args below meth c H locs ls Z X r1 r2 hM hS hL hn hZ)
theorem Ev.pop {v : Value} (hi : pg_ins mi pc = some (.pop, 1)) (hv : v.category = 1) (h : Ev Γ RC RS mi cells slots (pc + 1) L st σ Q) : Ev Γ RC RS mi cells slots pc L (v :: st) σ Q := by
  intro p l e R s m args below meth c H locs ls Z X r1 r2 hM hS hL hn hZ
  exact lv_pop X.1 X.2.1 (X.2.2.2.2.2.2.2.2.2.2.2 _ _ _ hi) hv (h p l e R s m args below meth c H locs ls Z X r1 r2 hM hS hL hn hZ)
theorem Ev.goto {off : Int} {tgt : Nat} (hi : pg_ins mi pc = some (.goto off, 3)) (ht : (pc : Int) + off = (tgt : Int)) (h : Ev Γ RC RS mi cells slots tgt L st σ Q) : Ev Γ RC RS mi cells slots pc L st σ Q := by
  intro p l e R s m args below meth c H locs ls Z X r1 r2 hM hS hL hn hZ
  exact lv_goto X.1 X.2.1 (X.2.2.2.2.2.2.2.2.2.2.2 _ _ _ hi) ht (h p l e R s m args below meth c H locs ls Z X r1 r2 hM hS hL hn hZ)
theorem Ev.icmp_eq {x y : Int32} {off : Int} {tgt : Nat} (hi : pg_ins mi pc = some (.if_icmp .eq off, 3)) (ht : (pc : Int) + off = (tgt : Int)) (h1 : x = y → Ev Γ RC RS mi cells slots tgt L st σ Q) (h2 : ¬ x = y → Ev Γ RC RS mi cells slots (pc + 3) L st σ Q) : Ev Γ RC RS mi cells slots pc L (.int y :: .int x :: st) σ Q := by
  intro p l e R s m args below meth c H locs ls Z X r1 r2 hM hS hL hn hZ
  exact lv_icmp_eq X.1 X.2.1 (X.2.2.2.2.2.2.2.2.2.2.2 _ _ _ hi) ht (fun q => (h1 q p l e R s m args below meth c H locs ls Z X r1 r2 hM hS hL hn hZ)) (fun q => (h2 q p l e R s m args below meth c H locs ls Z X r1 r2 hM hS hL hn hZ))
theorem Ev.if_eq {x : Int32} {off : Int} {tgt : Nat} (hi : pg_ins mi pc = some (.ifCond .eq off, 3)) (ht : (pc : Int) + off = (tgt : Int)) (h1 : x = 0 → Ev Γ RC RS mi cells slots tgt L st σ Q) (h2 : ¬ x = 0 → Ev Γ RC RS mi cells slots (pc + 3) L st σ Q) : Ev Γ RC RS mi cells slots pc L (.int x :: st) σ Q := by
  intro p l e R s m args below meth c H locs ls Z X r1 r2 hM hS hL hn hZ
  exact lv_if_eq X.1 X.2.1 (X.2.2.2.2.2.2.2.2.2.2.2 _ _ _ hi) ht (fun q => (h1 q p l e R s m args below meth c H locs ls Z X r1 r2 hM hS hL hn hZ)) (fun q => (h2 q p l e R s m args below meth c H locs ls Z X r1 r2 hM hS hL hn hZ))
theorem Ev.icmp_ne {x y : Int32} {off : Int} {tgt : Nat} (hi : pg_ins mi pc = some (.if_icmp .ne off, 3)) (ht : (pc : Int) + off = (tgt : Int)) (h1 : ¬ x = y → Ev Γ RC RS mi cells slots tgt L st σ Q) (h2 : x = y → Ev Γ RC RS mi cells slots (pc + 3) L st σ Q) : Ev Γ RC RS mi cells slots pc L (.int y :: .int x :: st) σ Q := by
  intro p l e R s m args below meth c H locs ls Z X r1 r2 hM hS hL hn hZ
  exact lv_icmp_ne X.1 X.2.1 (X.2.2.2.2.2.2.2.2.2.2.2 _ _ _ hi) ht (fun q => (h1 q p l e R s m args below meth c H locs ls Z X r1 r2 hM hS hL hn hZ)) (fun q => (h2 q p l e R s m args below meth c H locs ls Z X r1 r2 hM hS hL hn hZ))
theorem Ev.if_ne {x : Int32} {off : Int} {tgt : Nat} (hi : pg_ins mi pc = some (.ifCond .ne off, 3)) (ht : (pc : Int) + off = (tgt : Int)) (h1 : ¬ x = 0 → Ev Γ RC RS mi cells slots tgt L st σ Q) (h2 : x = 0 → Ev Γ RC RS mi cells slots (pc + 3) L st σ Q) : Ev Γ RC RS mi cells slots pc L (.int x :: st) σ Q := by
  intro p l e R s m args below meth c H locs ls Z X r1 r2 hM hS hL hn hZ
  exact lv_if_ne X.1 X.2.1 (X.2.2.2.2.2.2.2.2.2.2.2 _ _ _ hi) ht (fun q => (h1 q p l e R s m args below meth c H locs ls Z X r1 r2 hM hS hL hn hZ)) (fun q => (h2 q p l e R s m args below meth c H locs ls Z X r1 r2 hM hS hL hn hZ))
theorem Ev.icmp_lt {x y : Int32} {off : Int} {tgt : Nat} (hi : pg_ins mi pc = some (.if_icmp .lt off, 3)) (ht : (pc : Int) + off = (tgt : Int)) (h1 : x < y → Ev Γ RC RS mi cells slots tgt L st σ Q) (h2 : ¬ x < y → Ev Γ RC RS mi cells slots (pc + 3) L st σ Q) : Ev Γ RC RS mi cells slots pc L (.int y :: .int x :: st) σ Q := by
  intro p l e R s m args below meth c H locs ls Z X r1 r2 hM hS hL hn hZ
  exact lv_icmp_lt X.1 X.2.1 (X.2.2.2.2.2.2.2.2.2.2.2 _ _ _ hi) ht (fun q => (h1 q p l e R s m args below meth c H locs ls Z X r1 r2 hM hS hL hn hZ)) (fun q => (h2 q p l e R s m args below meth c H locs ls Z X r1 r2 hM hS hL hn hZ))
theorem Ev.if_lt {x : Int32} {off : Int} {tgt : Nat} (hi : pg_ins mi pc = some (.ifCond .lt off, 3)) (ht : (pc : Int) + off = (tgt : Int)) (h1 : x < 0 → Ev Γ RC RS mi cells slots tgt L st σ Q) (h2 : ¬ x < 0 → Ev Γ RC RS mi cells slots (pc + 3) L st σ Q) : Ev Γ RC RS mi cells slots pc L (.int x :: st) σ Q := by
  intro p l e R s m args below meth c H locs ls Z X r1 r2 hM hS hL hn hZ
  exact lv_if_lt X.1 X.2.1 (X.2.2.2.2.2.2.2.2.2.2.2 _ _ _ hi) ht (fun q => (h1 q p l e R s m args below meth c H locs ls Z X r1 r2 hM hS hL hn hZ)) (fun q => (h2 q p l e R s m args below meth c H locs ls Z X r1 r2 hM hS hL hn hZ))
theorem Ev.icmp_ge {x y : Int32} {off : Int} {tgt : Nat} (hi : pg_ins mi pc = some (.if_icmp .ge off, 3)) (ht : (pc : Int) + off = (tgt : Int)) (h1 : y ≤ x → Ev Γ RC RS mi cells slots tgt L st σ Q) (h2 : ¬ y ≤ x → Ev Γ RC RS mi cells slots (pc + 3) L st σ Q) : Ev Γ RC RS mi cells slots pc L (.int y :: .int x :: st) σ Q := by
  intro p l e R s m args below meth c H locs ls Z X r1 r2 hM hS hL hn hZ
  exact lv_icmp_ge X.1 X.2.1 (X.2.2.2.2.2.2.2.2.2.2.2 _ _ _ hi) ht (fun q => (h1 q p l e R s m args below meth c H locs ls Z X r1 r2 hM hS hL hn hZ)) (fun q => (h2 q p l e R s m args below meth c H locs ls Z X r1 r2 hM hS hL hn hZ))
theorem Ev.if_ge {x : Int32} {off : Int} {tgt : Nat} (hi : pg_ins mi pc = some (.ifCond .ge off, 3)) (ht : (pc : Int) + off = (tgt : Int)) (h1 : 0 ≤ x → Ev Γ RC RS mi cells slots tgt L st σ Q) (h2 : ¬ 0 ≤ x → Ev Γ RC RS mi cells slots (pc + 3) L st σ Q) : Ev Γ RC RS mi cells slots pc L (.int x :: st) σ Q := by
  intro p l e R s m args below meth c H locs ls Z X r1 r2 hM hS hL hn hZ
  exact lv_if_ge X.1 X.2.1 (X.2.2.2.2.2.2.2.2.2.2.2 _ _ _ hi) ht (fun q => (h1 q p l e R s m args below meth c H locs ls Z X r1 r2 hM hS hL hn hZ)) (fun q => (h2 q p l e R s m args below meth c H locs ls Z X r1 r2 hM hS hL hn hZ))
theorem Ev.icmp_gt {x y : Int32} {off : Int} {tgt : Nat} (hi : pg_ins mi pc = some (.if_icmp .gt off, 3)) (ht : (pc : Int) + off = (tgt : Int)) (h1 : y < x → Ev Γ RC RS mi cells slots tgt L st σ Q) (h2 : ¬ y < x → Ev Γ RC RS mi cells slots (pc + 3) L st σ Q) : Ev Γ RC RS mi cells slots pc L (.int y :: .int x :: st) σ Q := by
  intro p l e R s m args below meth c H locs ls Z X r1 r2 hM hS hL hn hZ
  exact lv_icmp_gt X.1 X.2.1 (X.2.2.2.2.2.2.2.2.2.2.2 _ _ _ hi) ht (fun q => (h1 q p l e R s m args below meth c H locs ls Z X r1 r2 hM hS hL hn hZ)) (fun q => (h2 q p l e R s m args below meth c H locs ls Z X r1 r2 hM hS hL hn hZ))
theorem Ev.if_gt {x : Int32} {off : Int} {tgt : Nat} (hi : pg_ins mi pc = some (.ifCond .gt off, 3)) (ht : (pc : Int) + off = (tgt : Int)) (h1 : 0 < x → Ev Γ RC RS mi cells slots tgt L st σ Q) (h2 : ¬ 0 < x → Ev Γ RC RS mi cells slots (pc + 3) L st σ Q) : Ev Γ RC RS mi cells slots pc L (.int x :: st) σ Q := by
  intro p l e R s m args below meth c H locs ls Z X r1 r2 hM hS hL hn hZ
  exact lv_if_gt X.1 X.2.1 (X.2.2.2.2.2.2.2.2.2.2.2 _ _ _ hi) ht (fun q => (h1 q p l e R s m args below meth c H locs ls Z X r1 r2 hM hS hL hn hZ)) (fun q => (h2 q p l e R s m args below meth c H locs ls Z X r1 r2 hM hS hL hn hZ))
theorem Ev.icmp_le {x y : Int32} {off : Int} {tgt : Nat} (hi : pg_ins mi pc = some (.if_icmp .le off, 3)) (ht : (pc : Int) + off = (tgt : Int)) (h1 : x ≤ y → Ev Γ RC RS mi cells slots tgt L st σ Q) (h2 : ¬ x ≤ y → Ev Γ RC RS mi cells slots (pc + 3) L st σ Q) : Ev Γ RC RS mi cells slots pc L (.int y :: .int x :: st) σ Q := by
  intro p l e R s m args below meth c H locs ls Z X r1 r2 hM hS hL hn hZ
  exact lv_icmp_le X.1 X.2.1 (X.2.2.2.2.2.2.2.2.2.2.2 _ _ _ hi) ht (fun q => (h1 q p l e R s m args below meth c H locs ls Z X r1 r2 hM hS hL hn hZ)) (fun q => (h2 q p l e R s m args below meth c H locs ls Z X r1 r2 hM hS hL hn hZ))
theorem Ev.if_le {x : Int32} {off : Int} {tgt : Nat} (hi : pg_ins mi pc = some (.ifCond .le off, 3)) (ht : (pc : Int) + off = (tgt : Int)) (h1 : x ≤ 0 → Ev Γ RC RS mi cells slots tgt L st σ Q) (h2 : ¬ x ≤ 0 → Ev Γ RC RS mi cells slots (pc + 3) L st σ Q) : Ev Γ RC RS mi cells slots pc L (.int x :: st) σ Q := by
  intro p l e R s m args below meth c H locs ls Z X r1 r2 hM hS hL hn hZ
  exact lv_if_le X.1 X.2.1 (X.2.2.2.2.2.2.2.2.2.2.2 _ _ _ hi) ht (fun q => (h1 q p l e R s m args below meth c H locs ls Z X r1 r2 hM hS hL hn hZ)) (fun q => (h2 q p l e R s m args below meth c H locs ls Z X r1 r2 hM hS hL hn hZ))
theorem Ev.ifnull {a : Nat} {off : Int} (hi : pg_ins mi pc = some (.ifnull off, 3)) (h : Ev Γ RC RS mi cells slots (pc + 3) L st σ Q) : Ev Γ RC RS mi cells slots pc L (.ref a :: st) σ Q := by
  intro p l e R s m args below meth c H locs ls Z X r1 r2 hM hS hL hn hZ
  exact lv_ifnull X.1 X.2.1 (X.2.2.2.2.2.2.2.2.2.2.2 _ _ _ hi) (h p l e R s m args below meth c H locs ls Z X r1 r2 hM hS hL hn hZ)
theorem Ev.ifnullN {off : Int} {tgt : Nat} (hi : pg_ins mi pc = some (.ifnull off, 3)) (ht : (pc : Int) + off = (tgt : Int)) (h : Ev Γ RC RS mi cells slots tgt L st σ Q) : Ev Γ RC RS mi cells slots pc L (.null :: st) σ Q := by
  intro p l e R s m args below meth c H locs ls Z X r1 r2 hM hS hL hn hZ
  exact lv_ifnullN X.1 X.2.1 (X.2.2.2.2.2.2.2.2.2.2.2 _ _ _ hi) ht (h p l e R s m args below meth c H locs ls Z X r1 r2 hM hS hL hn hZ)
theorem Ev.ifnonnull {a : Nat} {off : Int} {tgt : Nat} (hi : pg_ins mi pc = some (.ifnonnull off, 3)) (ht : (pc : Int) + off = (tgt : Int)) (h : Ev Γ RC RS mi cells slots tgt L st σ Q) : Ev Γ RC RS mi cells slots pc L (.ref a :: st) σ Q := by
  intro p l e R s m args below meth c H locs ls Z X r1 r2 hM hS hL hn hZ
  exact lv_ifnonnull X.1 X.2.1 (X.2.2.2.2.2.2.2.2.2.2.2 _ _ _ hi) ht (h p l e R s m args below meth c H locs ls Z X r1 r2 hM hS hL hn hZ)
theorem Ev.ifnonnullN {off : Int} (hi : pg_ins mi pc = some (.ifnonnull off, 3)) (h : Ev Γ RC RS mi cells slots (pc + 3) L st σ Q) : Ev Γ RC RS mi cells slots pc L (.null :: st) σ Q := by
  intro p l e R s m args below meth c H locs ls Z X r1 r2 hM hS hL hn hZ
  exact lv_ifnonnullN X.1 X.2.1 (X.2.2.2.2.2.2.2.2.2.2.2 _ _ _ hi) (h p l e R s m args below meth c H locs ls Z X r1 r2 hM hS hL hn hZ)
theorem Ev.tableIn {dflt lo hi0 : Int} {offs : Array Int} {len : Nat} {x : Int32} {off : Int} {tgt : Nat} (hi : pg_ins mi pc = some (.tableswitch dflt lo hi0 offs, len)) (h1 : ¬ x.toInt < lo) (h2 : ¬ hi0 < x.toInt) (ho : offs[(x.toInt - lo).toNat]? = some off) (ht : (pc : Int) + off = (tgt : Int)) (h : Ev Γ RC RS mi cells slots tgt L st σ Q) : Ev Γ RC RS mi cells slots pc L (.int x :: st) σ Q := by
  intro p l e R s m args below meth c H locs ls Z X r1 r2 hM hS hL hn hZ
  exact lv_tableIn X.1 X.2.1 (X.2.2.2.2.2.2.2.2.2.2.2 _ _ _ hi) h1 h2 ho ht (h p l e R s m args below meth c H locs ls Z X r1 r2 hM hS hL hn hZ)
theorem Ev.tableOut {dflt lo hi0 : Int} {offs : Array Int} {len : Nat} {x : Int32} {tgt : Nat} (hi : pg_ins mi pc = some (.tableswitch dflt lo hi0 offs, len)) (h1 : x.toInt < lo ∨ hi0 < x.toInt) (ht : (pc : Int) + dflt = (tgt : Int)) (h : Ev Γ RC RS mi cells slots tgt L st σ Q) : Ev Γ RC RS mi cells slots pc L (.int x :: st) σ Q := by
  intro p l e R s m args below meth c H locs ls Z X r1 r2 hM hS hL hn hZ
  exact lv_tableOut X.1 X.2.1 (X.2.2.2.2.2.2.2.2.2.2.2 _ _ _ hi) h1 ht (h p l e R s m args below meth c H locs ls Z X r1 r2 hM hS hL hn hZ)
theorem Ev.istore {i : Nat} {x : Int32} (hi : pg_ins mi pc = some (.istore i, 2)) (hb : Nat.ble (i + 1) (pg_ml mi) = true) (hc : ex_n2 L i = true) (h : Ev Γ RC RS mi cells slots (pc + 2) (L.set i (some (.int x))) st σ Q) : Ev Γ RC RS mi cells slots pc L (.int x :: st) σ Q := by
  intro p l e R s m args below meth c H locs ls Z X r1 r2 hM hS hL hn hZ
  refine lv_istore X.1 X.2.1 (X.2.2.2.2.2.2.2.2.2.2.2 _ _ _ hi) hL (by rw [hn]; exact Nat.le_of_ble_eq_true hb) rfl (fun ls2 hl2 => ?_)
  exact (h p l e R s m args below meth c H locs ls2 Z X r1 r2 hM hS (ex_Lo.set hc hl2) (by rw [List.length_set]; exact hn) hZ)
theorem Ev.istore_n {k : Fin 4} {x : Int32} (hi : pg_ins mi pc = some (.istore_n k, 1)) (hb : Nat.ble ((k : Nat) + 1) (pg_ml mi) = true) (hc : ex_n2 L (k : Nat) = true) (h : Ev Γ RC RS mi cells slots (pc + 1) (L.set (k : Nat) (some (.int x))) st σ Q) : Ev Γ RC RS mi cells slots pc L (.int x :: st) σ Q := by
  intro p l e R s m args below meth c H locs ls Z X r1 r2 hM hS hL hn hZ
  refine lv_istore_n X.1 X.2.1 (X.2.2.2.2.2.2.2.2.2.2.2 _ _ _ hi) rfl hL (by rw [hn]; exact Nat.le_of_ble_eq_true hb) rfl (fun ls2 hl2 => ?_)
  exact (h p l e R s m args below meth c H locs ls2 Z X r1 r2 hM hS (ex_Lo.set hc hl2) (by rw [List.length_set]; exact hn) hZ)
theorem Ev.astore {i : Nat} {x : Nat} (hi : pg_ins mi pc = some (.astore i, 2)) (hb : Nat.ble (i + 1) (pg_ml mi) = true) (hc : ex_n2 L i = true) (h : Ev Γ RC RS mi cells slots (pc + 2) (L.set i (some (.ref x))) st σ Q) : Ev Γ RC RS mi cells slots pc L (.ref x :: st) σ Q := by
  intro p l e R s m args below meth c H locs ls Z X r1 r2 hM hS hL hn hZ
  refine lv_astore X.1 X.2.1 (X.2.2.2.2.2.2.2.2.2.2.2 _ _ _ hi) hL (by rw [hn]; exact Nat.le_of_ble_eq_true hb) rfl (fun ls2 hl2 => ?_)
  exact (h p l e R s m args below meth c H locs ls2 Z X r1 r2 hM hS (ex_Lo.set hc hl2) (by rw [List.length_set]; exact hn) hZ)
theorem Ev.astore_n {k : Fin 4} {x : Nat} (hi : pg_ins mi pc = some (.astore_n k, 1)) (hb : Nat.ble ((k : Nat) + 1) (pg_ml mi) = true) (hc : ex_n2 L (k : Nat) = true) (h : Ev Γ RC RS mi cells slots (pc + 1) (L.set (k : Nat) (some (.ref x))) st σ Q) : Ev Γ RC RS mi cells slots pc L (.ref x :: st) σ Q := by
  intro p l e R s m args below meth c H locs ls Z X r1 r2 hM hS hL hn hZ
  refine lv_astore_n X.1 X.2.1 (X.2.2.2.2.2.2.2.2.2.2.2 _ _ _ hi) rfl hL (by rw [hn]; exact Nat.le_of_ble_eq_true hb) rfl (fun ls2 hl2 => ?_)
  exact (h p l e R s m args below meth c H locs ls2 Z X r1 r2 hM hS (ex_Lo.set hc hl2) (by rw [List.length_set]; exact hn) hZ)
theorem Ev.astoreN {i : Nat} (hi : pg_ins mi pc = some (.astore i, 2)) (hb : Nat.ble (i + 1) (pg_ml mi) = true) (hc : ex_n2 L i = true) (h : Ev Γ RC RS mi cells slots (pc + 2) (L.set i (some (.null))) st σ Q) : Ev Γ RC RS mi cells slots pc L (.null :: st) σ Q := by
  intro p l e R s m args below meth c H locs ls Z X r1 r2 hM hS hL hn hZ
  refine lv_astoreN X.1 X.2.1 (X.2.2.2.2.2.2.2.2.2.2.2 _ _ _ hi) hL (by rw [hn]; exact Nat.le_of_ble_eq_true hb) rfl (fun ls2 hl2 => ?_)
  exact (h p l e R s m args below meth c H locs ls2 Z X r1 r2 hM hS (ex_Lo.set hc hl2) (by rw [List.length_set]; exact hn) hZ)
theorem Ev.astore_nN {k : Fin 4} (hi : pg_ins mi pc = some (.astore_n k, 1)) (hb : Nat.ble ((k : Nat) + 1) (pg_ml mi) = true) (hc : ex_n2 L (k : Nat) = true) (h : Ev Γ RC RS mi cells slots (pc + 1) (L.set (k : Nat) (some (.null))) st σ Q) : Ev Γ RC RS mi cells slots pc L (.null :: st) σ Q := by
  intro p l e R s m args below meth c H locs ls Z X r1 r2 hM hS hL hn hZ
  refine lv_astore_nN X.1 X.2.1 (X.2.2.2.2.2.2.2.2.2.2.2 _ _ _ hi) rfl hL (by rw [hn]; exact Nat.le_of_ble_eq_true hb) rfl (fun ls2 hl2 => ?_)
  exact (h p l e R s m args below meth c H locs ls2 Z X r1 r2 hM hS (ex_Lo.set hc hl2) (by rw [List.length_set]; exact hn) hZ)
theorem Ev.lstore_n {k : Fin 4} {x : Int64} (hi : pg_ins mi pc = some (.lstore_n k, 1)) (hb : Nat.ble ((k : Nat) + 2) (pg_ml mi) = true) (hc : ex_n2 L (k : Nat) = true) (h : Ev Γ RC RS mi cells slots (pc + 1) ((L.set (k : Nat) (some (.long x))).set ((k : Nat) + 1) none) st σ Q) : Ev Γ RC RS mi cells slots pc L (.long x :: st) σ Q := by
  intro p l e R s m args below meth c H locs ls Z X r1 r2 hM hS hL hn hZ
  refine lv_lstore_n X.1 X.2.1 (X.2.2.2.2.2.2.2.2.2.2.2 _ _ _ hi) rfl hL (by rw [hn]; exact Nat.le_of_ble_eq_true hb) rfl (fun ls2 hl2 => ?_)
  exact (h p l e R s m args below meth c H locs ls2 Z X r1 r2 hM hS (ex_Lo.set2 hc hl2) (by rw [List.length_set, List.length_set]; exact hn) hZ)
theorem Ev.iinc {i : Nat} {k : Int} {x d : Int32} (hi : pg_ins mi pc = some (.iinc i k, 3)) (hb : Nat.ble (i + 1) (pg_ml mi) = true) (hc : ex_n2 L i = true) (hv : Int32.ofInt k = d) (hl : L[i]? = some (some (.int x))) (h : Ev Γ RC RS mi cells slots (pc + 3) (L.set i (some (.int (x + d)))) st σ Q) : Ev Γ RC RS mi cells slots pc L st σ Q := by
  intro p l e R s m args below meth c H locs ls Z X r1 r2 hM hS hL hn hZ
  obtain ⟨q, hq⟩ := List.getElem?_of_mem ((ex_lv_mem L 0 i (.int x)).mpr ⟨Nat.zero_le _, by simpa using hl⟩)
  refine lv_iinc X.1 X.2.1 (X.2.2.2.2.2.2.2.2.2.2.2 _ _ _ hi) hL hq (by rw [hv]) (by rw [hn]; exact Nat.le_of_ble_eq_true hb) rfl (fun ls2 hl2 => ?_)
  exact (h p l e R s m args below meth c H locs ls2 Z X r1 r2 hM hS (ex_Lo.set hc hl2) (by rw [List.length_set]; exact hn) hZ)
theorem Ev.ldc {k : Nat} {v : Int32} (hi : pg_ins mi pc = some (.ldc k, 2)) (hk : (pg_kis.getD (pg_oi mi) []).lookup k = some v) (h : Ev Γ RC RS mi cells slots (pc + 2) L (.int v :: st) σ Q) : Ev Γ RC RS mi cells slots pc L st σ Q := by
  intro p l e R s m args below meth c H locs ls Z X r1 r2 hM hS hL hn hZ
  exact lv_ldc X.1 X.2.1 X.2.2.2.2.1 (X.2.2.2.2.2.1 _ (pg_ki_ok _ _ (ex_lookup _ _ _ hk))) (X.2.2.2.2.2.2.2.2.2.2.2 _ _ _ hi) (h p l e R s m args below meth c H locs ls Z X r1 r2 hM hS hL hn hZ)
theorem Ev.ldcw {k : Nat} {v : Int32} (hi : pg_ins mi pc = some (.ldc_w k, 3)) (hk : (pg_kis.getD (pg_oi mi) []).lookup k = some v) (h : Ev Γ RC RS mi cells slots (pc + 3) L (.int v :: st) σ Q) : Ev Γ RC RS mi cells slots pc L st σ Q := by
  intro p l e R s m args below meth c H locs ls Z X r1 r2 hM hS hL hn hZ
  exact lv_ldcw X.1 X.2.1 X.2.2.2.2.1 (X.2.2.2.2.2.1 _ (pg_ki_ok _ _ (ex_lookup _ _ _ hk))) (X.2.2.2.2.2.2.2.2.2.2.2 _ _ _ hi) (h p l e R s m args below meth c H locs ls Z X r1 r2 hM hS hL hn hZ)
theorem Ev.ldc2 {k : Nat} {v : Int64} (hi : pg_ins mi pc = some (.ldc2_w k, 3)) (hk : (pg_kls.getD (pg_oi mi) []).lookup k = some v) (h : Ev Γ RC RS mi cells slots (pc + 3) L (.long v :: st) σ Q) : Ev Γ RC RS mi cells slots pc L st σ Q := by
  intro p l e R s m args below meth c H locs ls Z X r1 r2 hM hS hL hn hZ
  exact lv_ldc2 X.1 X.2.1 X.2.2.2.2.1 (X.2.2.2.2.2.1 _ (pg_kl_ok _ _ (ex_lookup _ _ _ hk))) (X.2.2.2.2.2.2.2.2.2.2.2 _ _ _ hi) (h p l e R s m args below meth c H locs ls Z X r1 r2 hM hS hL hn hZ)
theorem Ev.ret  (hi : pg_ins mi pc = some (.return_, 1)) (hr : pg_rt mi = none) (hc : cells ≤ RC) (hs : slots ≤ RS) (h : Q none σ) : Ev Γ RC RS mi cells slots pc L [] σ Q := by
  intro p l e R s m args below meth c H locs ls Z X r1 r2 hM hS hL hn hZ
  exact W.widen hc hs (hZ none σ H locs ls pc h hM hS (Or.inl ⟨rfl, hr, hi⟩))
theorem Ev.iret {x : Int32} {ty : FieldType} (hi : pg_ins mi pc = some (.ireturn, 1)) (hr : pg_rt mi = some ty) (hx : narrow ty (.int x) = .int x) (hc : cells ≤ RC) (hs : slots ≤ RS) (h : Q (some (.int x)) σ) : Ev Γ RC RS mi cells slots pc L [.int x] σ Q := by
  intro p l e R s m args below meth c H locs ls Z X r1 r2 hM hS hL hn hZ
  exact W.widen hc hs (hZ (some (.int x)) σ H locs ls pc h hM hS (Or.inr (Or.inl ⟨x, ty, rfl, hr, hx, hi⟩)))
theorem Ev.lret {x : Int64} (hi : pg_ins mi pc = some (.lreturn, 1)) (hr : pg_rt mi = some .long) (hc : cells ≤ RC) (hs : slots ≤ RS) (h : Q (some (.long x)) σ) : Ev Γ RC RS mi cells slots pc L [.long x] σ Q := by
  intro p l e R s m args below meth c H locs ls Z X r1 r2 hM hS hL hn hZ
  exact W.widen hc hs (hZ (some (.long x)) σ H locs ls pc h hM hS (Or.inr (Or.inr (Or.inl ⟨x, rfl, hr, hi⟩))))
theorem Ev.aret {w : Value} {t : FieldType} (hi : pg_ins mi pc = some (.areturn, 1)) (hr : pg_rt mi = some t) (ht : (∃ n, t = .object n) ∨ ∃ u, t = .array u) (hw : w = .null ∨ ∃ a, w = .ref a) (hc : cells ≤ RC) (hs : slots ≤ RS) (h : Q (some w) σ) : Ev Γ RC RS mi cells slots pc L [w] σ Q := by
  intro p l e R s m args below meth c H locs ls Z X r1 r2 hM hS hL hn hZ
  exact W.widen hc hs (hZ (some w) σ H locs ls pc h hM hS (Or.inr (Or.inr (Or.inr ⟨w, t, rfl, hr, ht, hw, hi⟩))))
end
end
