/-! The start: classes, statics and texts as the claim gives them. -/
noncomputable section
abbrev cd_all : Jvm.Cond := Jvm.Cond.and given_1 narrow_1
def sv_FR : List Int32 := [15, 0, 1, 15, 9, 0, 0, 10, 50, 0, 100]
set_option maxRecDepth 100000 in
theorem se_FR : ∀ j, j < 11 → Cond.eq (.elem (.static "SchoolDoors" "FIRST_RULES" "[I") (.int (Int32.ofNat j))) (.int (sv_FR.getD j 0)) ∈ flatC cd_all := fun j hj => List.mem_of_getElem? (i := 7 + j) ((by decide +kernel : ∀ j, j < 11 → (flatC cd_all)[7 + j]? = some (Cond.eq (.elem (.static "SchoolDoors" "FIRST_RULES" "[I") (.int (Int32.ofNat j))) (.int (sv_FR.getD j 0)))) j hj)
theorem sa_FR : Cond.arrayOf (.static "SchoolDoors" "FIRST_RULES" "[I") .int ∈ flatC cd_all ∧ Cond.eq (.length (.static "SchoolDoors" "FIRST_RULES" "[I")) (.int (Int32.ofNat 11)) ∈ flatC cd_all := by decide +kernel
def sv_NU : List Int32 := [3, 2, 2, 2, 3, 3, 2, 2, 1, 1, 1, 1, 1, 1, 1, 3, 4, 3, 3, 3, 1]
set_option maxRecDepth 100000 in
theorem se_NU : ∀ j, j < 21 → Cond.eq (.elem (.static "SchoolDoors$Reader" "NUMBERS" "[I") (.int (Int32.ofNat j))) (.int (sv_NU.getD j 0)) ∈ flatC cd_all := fun j hj => List.mem_of_getElem? (i := 26 + j) ((by decide +kernel : ∀ j, j < 21 → (flatC cd_all)[26 + j]? = some (Cond.eq (.elem (.static "SchoolDoors$Reader" "NUMBERS" "[I") (.int (Int32.ofNat j))) (.int (sv_NU.getD j 0)))) j hj)
theorem sa_NU : Cond.arrayOf (.static "SchoolDoors$Reader" "NUMBERS" "[I") .int ∈ flatC cd_all ∧ Cond.eq (.length (.static "SchoolDoors$Reader" "NUMBERS" "[I")) (.int (Int32.ofNat 21)) ∈ flatC cd_all := by decide +kernel
def sv_LO : List Int32 := [0, 1, 0, 0, 0, 0, 0, 0, 0, 0, 0, 0, 1, 0, 0, 0, 0, 0, 0, 0, 1, 0, 0, 0, 1, 0, 0, 0, 1, 1, 0, 0, 1, 0, 0, 0, 0, 0, 0, 0, 0, 0, 0, 0, 1, 0, 0, 0, 0, 0, 0, 0, 0, 0, 0, 0, 0, 0, 0, 0, 0, 0, 0, 0, 0, 0, 0, 0, 0, 0, 0, 0, 0, 0, 0, 0, 0, 0, 0, 0, 0, 0, 0, 0]
set_option maxRecDepth 100000 in
theorem se_LO : ∀ j, j < 84 → Cond.eq (.elem (.static "SchoolDoors$Reader" "LOW" "[I") (.int (Int32.ofNat j))) (.int (sv_LO.getD j 0)) ∈ flatC cd_all := fun j hj => List.mem_of_getElem? (i := 50 + j) ((by decide +kernel : ∀ j, j < 84 → (flatC cd_all)[50 + j]? = some (Cond.eq (.elem (.static "SchoolDoors$Reader" "LOW" "[I") (.int (Int32.ofNat j))) (.int (sv_LO.getD j 0)))) j hj)
theorem sa_LO : Cond.arrayOf (.static "SchoolDoors$Reader" "LOW" "[I") .int ∈ flatC cd_all ∧ Cond.eq (.length (.static "SchoolDoors$Reader" "LOW" "[I")) (.int (Int32.ofNat 84)) ∈ flatC cd_all := by decide +kernel
def sv_HI : List Int32 := [11, 63, 999, 0, 15, 15, 0, 0, 15, 100, 0, 0, 63, 3, 0, 0, 3, 99, 100, 0, 3, 99, 100, 0, 15, 20, 0, 0, 15, 15, 0, 0, 9, 0, 0, 0, 999, 0, 0, 0, 999, 0, 0, 0, 30, 0, 0, 0, 99, 0, 0, 0, 99, 0, 0, 0, 200, 0, 0, 0, 4, 5, 11, 0, 4, 5, 11, 11, 4, 5, 11, 0, 4, 5, 11, 0, 4, 5, 11, 0, 15, 0, 0, 0]
set_option maxRecDepth 100000 in
theorem se_HI : ∀ j, j < 84 → Cond.eq (.elem (.static "SchoolDoors$Reader" "HIGH" "[I") (.int (Int32.ofNat j))) (.int (sv_HI.getD j 0)) ∈ flatC cd_all := fun j hj => List.mem_of_getElem? (i := 137 + j) ((by decide +kernel : ∀ j, j < 84 → (flatC cd_all)[137 + j]? = some (Cond.eq (.elem (.static "SchoolDoors$Reader" "HIGH" "[I") (.int (Int32.ofNat j))) (.int (sv_HI.getD j 0)))) j hj)
theorem sa_HI : Cond.arrayOf (.static "SchoolDoors$Reader" "HIGH" "[I") .int ∈ flatC cd_all ∧ Cond.eq (.length (.static "SchoolDoors$Reader" "HIGH" "[I")) (.int (Int32.ofNat 84)) ∈ flatC cd_all := by decide +kernel
def sv_byt : List (List Int32) := [[108, 101, 97, 114, 110, 101, 114, 32, 99, 111, 117, 112, 108, 101, 32, 112, 101, 114, 104, 97, 112, 115, 32, 116, 101, 97, 99, 104, 101, 114, 32, 97, 98, 111, 118, 101, 32, 98, 101, 108, 111, 119, 32, 99, 114, 111, 119, 100, 32, 115, 105, 122, 101, 32, 114, 111, 111, 109, 115, 32, 99, 111, 115, 116, 32, 102, 101, 101, 32, 119, 101, 101, 107, 115, 32, 114, 105, 115, 101, 32, 116, 101, 108, 108, 32, 108, 111, 110, 103, 32], [101, 118, 101, 110, 32, 116, 119, 111, 32, 98, 114, 111, 97, 100, 32, 108, 111, 110, 103, 32, 112, 97, 105, 114, 115, 32, 115, 105, 116, 115, 32]]
def sv_len : List Nat := [90, 31]
def sv_tm (i : Nat) : Term := .string "SchoolDoors$Reader" (if i = 0 then 77 else 79)
theorem st_1 : ∀ i, i < 2 → sv_len.getD i 0 < 2 ^ 31 := by decide
theorem st_2 : ∀ i, i < 2 → Cond.exactly (sv_tm i) "java/lang/String" ∈ flatC cd_all := by decide +kernel
theorem st_3 : ∀ i, i < 2 → Cond.eq (.field (sv_tm i) "java/lang/String" "coder" "B") (.int 0) ∈ flatC cd_all := by decide +kernel
theorem st_4 : ∀ i, i < 2 → Cond.arrayOf (.field (sv_tm i) "java/lang/String" "value" "[B") .byte ∈ flatC cd_all := by decide +kernel
theorem st_5 : ∀ i, i < 2 → Cond.eq (.length (.field (sv_tm i) "java/lang/String" "value" "[B")) (.int (Int32.ofNat (sv_len.getD i 0))) ∈ flatC cd_all := by decide +kernel
theorem st_6_0 : ∀ j, j < 90 → (flatC cd_all)[269 + j]? = some (Cond.eq (.elem (.field (.string "SchoolDoors$Reader" 77) "java/lang/String" "value" "[B") (.int (Int32.ofNat j))) (.int ((sv_byt.getD 0 []).getD j 0))) := by decide +kernel
theorem st_6_1 : ∀ j, j < 31 → (flatC cd_all)[363 + j]? = some (Cond.eq (.elem (.field (.string "SchoolDoors$Reader" 79) "java/lang/String" "value" "[B") (.int (Int32.ofNat j))) (.int ((sv_byt.getD 1 []).getD j 0))) := by decide +kernel
theorem st_6 : ∀ i, i < 2 → ∀ j, j < sv_len.getD i 0 → Cond.eq (.elem (.field (sv_tm i) "java/lang/String" "value" "[B") (.int (Int32.ofNat j))) (.int ((sv_byt.getD i []).getD j 0)) ∈ flatC cd_all := by
  intro i hi j hj
  match i, hi with
  | 0, _ => exact List.mem_of_getElem? (st_6_0 j hj)
  | 1, _ => exact List.mem_of_getElem? (st_6_1 j hj)
theorem st_7 : Cond.not (Cond.eq (sv_tm 0) (sv_tm 1)) ∈ flatC cd_all := by decide +kernel
theorem st_8 : Cond.eq (.static "java/lang/String" "COMPACT_STRINGS" "Z") (.int 1) ∈ flatC cd_all ∧ Cond.isRef (.static "jdk/internal/util/Preconditions" "SIOOBE_FORMATTER" "Ljava/util/function/BiFunction;") ∈ flatC cd_all := by decide +kernel
set_option maxRecDepth 20000 in
theorem sl_FR : Cond.laysStatic "SchoolDoors" "FIRST_RULES" "[I" ∈ lw_tbl ∧ Cond.initialized "SchoolDoors" ∈ lw_tbl := ⟨List.mem_append_right _ (List.mem_append_right _ (List.mem_append_left _ (List.mem_of_getElem? (i := 190) rfl))), List.mem_append_right _ (List.mem_append_left _ (List.mem_of_getElem? (i := 1) rfl))⟩
set_option maxRecDepth 20000 in
theorem sl_NU : Cond.laysStatic "SchoolDoors$Reader" "NUMBERS" "[I" ∈ lw_tbl ∧ Cond.initialized "SchoolDoors$Reader" ∈ lw_tbl := ⟨List.mem_append_right _ (List.mem_append_right _ (List.mem_append_right _ (List.mem_append_left _ (List.mem_of_getElem? (i := 31) rfl)))), List.mem_append_right _ (List.mem_append_left _ (List.mem_of_getElem? (i := 6) rfl))⟩
set_option maxRecDepth 20000 in
theorem sl_LO : Cond.laysStatic "SchoolDoors$Reader" "LOW" "[I" ∈ lw_tbl ∧ Cond.initialized "SchoolDoors$Reader" ∈ lw_tbl := ⟨List.mem_append_right _ (List.mem_append_right _ (List.mem_append_right _ (List.mem_append_left _ (List.mem_of_getElem? (i := 45) rfl)))), List.mem_append_right _ (List.mem_append_left _ (List.mem_of_getElem? (i := 6) rfl))⟩
set_option maxRecDepth 20000 in
theorem sl_HI : Cond.laysStatic "SchoolDoors$Reader" "HIGH" "[I" ∈ lw_tbl ∧ Cond.initialized "SchoolDoors$Reader" ∈ lw_tbl := ⟨List.mem_append_right _ (List.mem_append_right _ (List.mem_append_right _ (List.mem_append_left _ (List.mem_of_getElem? (i := 47) rfl)))), List.mem_append_right _ (List.mem_append_left _ (List.mem_of_getElem? (i := 6) rfl))⟩
set_option maxRecDepth 20000 in
theorem sl_CO : Cond.laysStatic "java/lang/String" "COMPACT_STRINGS" "Z" ∈ lw_tbl ∧ Cond.initialized "java/lang/String" ∈ lw_tbl := ⟨List.mem_append_right _ (List.mem_append_right _ (List.mem_append_left _ (List.mem_of_getElem? (i := 227) rfl))), List.mem_append_right _ (List.mem_append_left _ (List.mem_of_getElem? (i := 14) rfl))⟩
set_option maxRecDepth 20000 in
theorem sl_SI : Cond.laysStatic "jdk/internal/util/Preconditions" "SIOOBE_FORMATTER" "Ljava/util/function/BiFunction;" ∈ lw_tbl ∧ Cond.initialized "jdk/internal/util/Preconditions" ∈ lw_tbl := ⟨List.mem_append_right _ (List.mem_append_right _ (List.mem_append_right _ (List.mem_append_left _ (List.mem_of_getElem? (i := 3) rfl)))), List.mem_append_right _ (List.mem_append_left _ (List.mem_of_getElem? (i := 16) rfl))⟩
set_option maxRecDepth 20000 in
theorem sr_0 : Cond.stringRef "SchoolDoors$Reader" 77 "learner couple perhaps teacher above below crowd size rooms cost fee weeks rise tell long " ∈ lw_tbl := List.mem_append_right _ (List.mem_append_right _ (List.mem_append_left _ (List.mem_of_getElem? (i := 212) rfl)))
set_option maxRecDepth 20000 in
theorem sr_1 : Cond.stringRef "SchoolDoors$Reader" 79 "even two broad long pairs sits " ∈ lw_tbl := List.mem_append_right _ (List.mem_append_right _ (List.mem_append_left _ (List.mem_of_getElem? (i := 213) rfl)))
/-- what Γ holds of statics and texts -/
def stat (Γ : ex_G) (b L : Nat) (xs : Nat → Int32) : Prop :=
  (b, 0, L, xs) ∈ gA Γ ∧ (∃ a, gV Γ 0 = .ref a ∧ (a, 0, 11, fun j => sv_FR.getD j 0) ∈ gA Γ) ∧ (∃ a, gV Γ 1 = .ref a ∧ (a, 0, 21, fun j => sv_NU.getD j 0) ∈ gA Γ) ∧ (∃ a, gV Γ 2 = .ref a ∧ (a, 0, 84, fun j => sv_LO.getD j 0) ∈ gA Γ) ∧ (∃ a, gV Γ 3 = .ref a ∧ (a, 0, 84, fun j => sv_HI.getD j 0) ∈ gA Γ) ∧ gV Γ 4 = .int 1 ∧ (gV Γ 5 = .null ∨ ∃ a, gV Γ 5 = .ref a) ∧
  ((gS Γ 0).2, 1, 90, fun j => (sv_byt.getD 0 []).getD j 0) ∈ gA Γ ∧ ((gS Γ 1).2, 1, 31, fun j => (sv_byt.getD 1 []).getD j 0) ∈ gA Γ
theorem arr_prim {args : Array Value} {s : State} {ty : FieldType} (hp : ∀ C, ty ≠ .object C) (h : (Cond.arrayClass ty).before args s = true) : ∃ cA, ArrOfT s cA ty ∧ va_RA s cA ty := by
  obtain ⟨c, k, comp, h1, h2, h3⟩ := Cond.arrayClass_spec h
  refine ⟨c, fun n z => ⟨(fun q w => by cases w), k, h2, comp, h3⟩, ?_⟩
  unfold va_RA
  split
  · rename_i C
    exact absurd rfl (hp C)
  · exact h1
theorem arr_obj {args : Array Value} {s : State} {C : String} (h : (Cond.arrayOver (.object C)).before args s = true) : ∃ cA, ArrOfT s cA (.object C) ∧ va_RA s cA (.object C) := by
  obtain ⟨comp, c, k, h1, h2, h3, h4, h5⟩ := Cond.arrayOver_spec h
  exact ⟨c, fun n z => ⟨(fun q w => by cases w), k, h3, comp, h4⟩, k, comp, h3, h4, h1, h5⟩
set_option maxHeartbeats 4000000 in
theorem ex_begin {p : Program} {s : State} {m : MethodId} {meth : Method} {c : Code} {b L : Nat} {xs : Nat → Int32} (hL : L ≤ 3072) (C0 : lw_At p s m meth c b L xs) : ∃ Γ : ex_G, gN Γ = s.heap.size ∧ ex_I Γ s ∧ stat Γ b L xs := by
  obtain ⟨hx, hb, hr, hml, hown, hts, hX, hbl, hlocks, hgv⟩ := C0
  have hs := flat_of_before _ hgv
  have hA : ∀ a : Nat, a < s.heap.size → ¬ (fun q => s.heap.size ≤ q) a := fun a h => Nat.not_le.mpr h
  obtain ⟨c0, i0, k0⟩ := u_known (C := "SchoolDoors") (T := F_SD) (N := 11) (n := 11) hts fw_SD (hts _ (List.mem_filter.mp pc_0.2.2.2.1).1)
  obtain ⟨c1, i1, k1⟩ := u_known (C := "SchoolDoors$State") (T := F_State) (N := 8) (n := 8) hts fw_State (hts _ (List.mem_filter.mp pc_1.2.2.2.1).1)
  obtain ⟨c2, i2, k2⟩ := u_known (C := "SchoolDoors$School") (T := F_School) (N := 12) (n := 12) hts fw_School (hts _ (List.mem_filter.mp pc_2.2.2.2.1).1)
  obtain ⟨c3, i3, k3⟩ := u_known (C := "SchoolDoors$Plan") (T := F_Plan) (N := 2) (n := 2) hts fw_Plan (hts _ (List.mem_filter.mp pc_3.2.2.2.1).1)
  obtain ⟨c4, i4, k4⟩ := u_known (C := "SchoolDoors$Lesson") (T := F_Lesson) (N := 6) (n := 6) hts fw_Lesson (hts _ (List.mem_filter.mp pc_4.2.2.2.1).1)
  obtain ⟨c5, i5, k5⟩ := u_known (C := "SchoolDoors$Reader") (T := F_Reader) (N := 12) (n := 12) hts fw_Reader (hts _ (List.mem_filter.mp pc_5.2.2.2.1).1)
  obtain ⟨c6, i6, k6⟩ := u_known (C := "SchoolDoors$Line") (T := F_Line) (N := 10) (n := 10) hts fw_Line (hts _ (List.mem_filter.mp pc_6.2.2.2.1).1)
  obtain ⟨c7, i7, k7⟩ := u_known (C := "SchoolDoors$Sharing") (T := F_Sharing) (N := 4) (n := 4) hts fw_Sharing (hts _ (List.mem_filter.mp pc_7.2.2.2.1).1)
  obtain ⟨c8, i8, k8⟩ := u_known (C := "SchoolDoors$Benches") (T := F_Benches) (N := 5) (n := 5) hts fw_Benches (hts _ (List.mem_filter.mp pc_8.2.2.2.1).1)
  obtain ⟨c9, i9, k9⟩ := u_known (C := "SchoolDoors$Term") (T := F_Term) (N := 3) (n := 3) hts fw_Term (hts _ (List.mem_filter.mp pc_9.2.2.2.1).1)
  obtain ⟨c10, i10, k10⟩ := u_known (C := "SchoolDoorsModel") (T := F_M) (N := 30) (n := 30) hts fw_M (hts _ (List.mem_filter.mp pc_10.2.2.2.1).1)
  obtain ⟨dC, dI, hKc⟩ : ∃ (dC : Nat → ClassId) (dI : Nat → Nat → Nat), ∀ (k : Nat) (q : vw_C), pg_cl[k]? = some q → u_Kn s q.1 q.2.1 q.2.2 (dC k) (dI k) := by
    refine ⟨fun k => if k = 0 then c0 else if k = 1 then c1 else if k = 2 then c2 else if k = 3 then c3 else if k = 4 then c4 else if k = 5 then c5 else if k = 6 then c6 else if k = 7 then c7 else if k = 8 then c8 else if k = 9 then c9 else c10, fun k => if k = 0 then i0 else if k = 1 then i1 else if k = 2 then i2 else if k = 3 then i3 else if k = 4 then i4 else if k = 5 then i5 else if k = 6 then i6 else if k = 7 then i7 else if k = 8 then i8 else if k = 9 then i9 else i10, ?_⟩
    intro k q hq
    match k, hq with
    | 0, hq => cases hq; exact k0
    | 1, hq => cases hq; exact k1
    | 2, hq => cases hq; exact k2
    | 3, hq => cases hq; exact k3
    | 4, hq => cases hq; exact k4
    | 5, hq => cases hq; exact k5
    | 6, hq => cases hq; exact k6
    | 7, hq => cases hq; exact k7
    | 8, hq => cases hq; exact k8
    | 9, hq => cases hq; exact k9
    | 10, hq => cases hq; exact k10
    | k + 11, hq => simp [pg_cl] at hq
  obtain ⟨d0, e0, f0⟩ := arr_prim (ty := .int) (fun C h => by cases h) (hts _ (List.mem_filter.mp pa_0).1)
  obtain ⟨d1, e1, f1⟩ := arr_prim (ty := .byte) (fun C h => by cases h) (hts _ (List.mem_filter.mp pa_1).1)
  obtain ⟨d2, e2, f2⟩ := arr_prim (ty := .boolean) (fun C h => by cases h) (hts _ (List.mem_filter.mp pa_2).1)
  obtain ⟨d3, e3, f3⟩ := arr_obj (hts _ pa_3)
  obtain ⟨d4, e4, f4⟩ := arr_obj (hts _ pa_4)
  obtain ⟨d5, e5, f5⟩ := arr_obj (hts _ pa_5)
  obtain ⟨d6, e6, f6⟩ := arr_obj (hts _ pa_6)
  have gi : ∀ w ∈ flatC cd_all, w.before #[Value.ref b] s = true := hs
  obtain ⟨a0, v0, T0⟩ := va_Tof (tm := .static "SchoolDoors" "FIRST_RULES" "[I") (ty := .int) (N := 11) (f := fun j => .int (sv_FR.getD j 0)) (A := fun q => s.heap.size ≤ q) (by decide) (gi _ sa_FR.1) (va_eqt (gi _ sa_FR.2)) (fun j hj => va_eqt (gi _ (se_FR j hj))) hA
  have z0 := va_Zof (hts _ sl_FR.1) (hts _ sl_FR.2) v0 hA
  obtain ⟨a1, v1, T1⟩ := va_Tof (tm := .static "SchoolDoors$Reader" "NUMBERS" "[I") (ty := .int) (N := 21) (f := fun j => .int (sv_NU.getD j 0)) (A := fun q => s.heap.size ≤ q) (by decide) (gi _ sa_NU.1) (va_eqt (gi _ sa_NU.2)) (fun j hj => va_eqt (gi _ (se_NU j hj))) hA
  have z1 := va_Zof (hts _ sl_NU.1) (hts _ sl_NU.2) v1 hA
  obtain ⟨a2, v2, T2⟩ := va_Tof (tm := .static "SchoolDoors$Reader" "LOW" "[I") (ty := .int) (N := 84) (f := fun j => .int (sv_LO.getD j 0)) (A := fun q => s.heap.size ≤ q) (by decide) (gi _ sa_LO.1) (va_eqt (gi _ sa_LO.2)) (fun j hj => va_eqt (gi _ (se_LO j hj))) hA
  have z2 := va_Zof (hts _ sl_LO.1) (hts _ sl_LO.2) v2 hA
  obtain ⟨a3, v3, T3⟩ := va_Tof (tm := .static "SchoolDoors$Reader" "HIGH" "[I") (ty := .int) (N := 84) (f := fun j => .int (sv_HI.getD j 0)) (A := fun q => s.heap.size ≤ q) (by decide) (gi _ sa_HI.1) (va_eqt (gi _ sa_HI.2)) (fun j hj => va_eqt (gi _ (se_HI j hj))) hA
  have z3 := va_Zof (hts _ sl_HI.1) (hts _ sl_HI.2) v3 hA
  have z4 := va_Zof (A := fun q => s.heap.size ≤ q) (hts _ sl_CO.1) (hts _ sl_CO.2) (va_eqi (gi _ st_8.1)) hA
  have z5 := va_Zqof (A := fun q => s.heap.size ≤ q) (hts _ sl_SI.1) (hts _ sl_SI.2) (gi _ st_8.2) hA
  obtain ⟨v5, z5, hv5⟩ : ∃ v : Value, va_Z "jdk/internal/util/Preconditions" "SIOOBE_FORMATTER" "Ljava/util/function/BiFunction;" v (fun q => s.heap.size ≤ q) s s.heap ∧ (v = .null ∨ ∃ a, v = .ref a) := by
    rcases z5 with h | ⟨t, h⟩
    · exact ⟨_, h, Or.inl rfl⟩
    · exact ⟨_, h, Or.inr ⟨t, rfl⟩⟩
  obtain ⟨adK, adV, hVS, hVe⟩ := vk_Sof (A := fun q => s.heap.size ≤ q) (N := 2) (tm := sv_tm) (len := sv_len) (byt := sv_byt) st_1 (fun i hi => gi _ (st_2 i hi)) (fun i hi => gi _ (st_3 i hi)) (fun i hi => gi _ (st_4 i hi)) (fun i hi => gi _ (st_5 i hi)) (fun i hi j hj => gi _ (st_6 i hi j hj)) (fun i j hi hj hij => by
    match i, j, hi, hj, hij with
    | 0, 0, _, _, h => exact absurd rfl h
    | 0, 1, _, _, _ => exact Or.inl (gi _ st_7)
    | 1, 0, _, _, _ => exact Or.inr (gi _ st_7)
    | 1, 1, _, _, h => exact absurd rfl h) hA
  obtain ⟨scr, x1, x2, x3, x4, x5⟩ := hX
  have TX : va_T .int b L (fun j => .int (xs j)) (fun q => s.heap.size ≤ q) s s.heap := ⟨scr, x1, x2, x3, by rw [x4]; exact Nat.le_refl _, by rw [x4] <;> rfl, x5, hA b hbl⟩
  refine ⟨(s.heap.size, (dC, dI), fun k => if k = 0 then d0 else if k = 1 then d1 else if k = 2 then d2 else if k = 3 then d3 else if k = 4 then d4 else if k = 5 then d5 else d6, [(b, 0, L, xs), (a0, 0, 11, fun j => sv_FR.getD j 0), (a1, 0, 21, fun j => sv_NU.getD j 0), (a2, 0, 84, fun j => sv_LO.getD j 0), (a3, 0, 84, fun j => sv_HI.getD j 0), (adV 0, 1, 90, fun j => (sv_byt.getD 0 []).getD j 0), (adV 1, 1, 31, fun j => (sv_byt.getD 1 []).getD j 0)], fun k => if k = 0 then .ref a0 else if k = 1 then .ref a1 else if k = 2 then .ref a2 else if k = 3 then .ref a3 else if k = 4 then .int 1 else v5, fun k => (adK k, adV k)), rfl, ?_, ?_⟩
  · refine ⟨⟨hKc, fun k q hq => ?_⟩, Nat.le_refl _, fun a t n f h => ?_, fun k q hq => ?_, fun j q hq => ?_, fun a i z h hz => va_Nw.of rfl (hts _ hz), fun a i q n d h hz => va_Nw.of rfl (hts _ hz), fun C hz => va_AO.of (hts _ hz)⟩
    · match k, hq with
      | 0, hq => cases hq; exact ⟨e0, f0⟩
      | 1, hq => cases hq; exact ⟨e1, f1⟩
      | 2, hq => cases hq; exact ⟨e2, f2⟩
      | 3, hq => cases hq; exact ⟨e3, f3⟩
      | 4, hq => cases hq; exact ⟨e4, f4⟩
      | 5, hq => cases hq; exact ⟨e5, f5⟩
      | 6, hq => cases hq; exact ⟨e6, f6⟩
      | k + 7, hq => simp [ex_tys] at hq
    · have h : (a, t, n, f) ∈ [(b, 0, L, xs), (a0, 0, 11, fun j => sv_FR.getD j 0), (a1, 0, 21, fun j => sv_NU.getD j 0), (a2, 0, 84, fun j => sv_LO.getD j 0), (a3, 0, 84, fun j => sv_HI.getD j 0), (adV 0, 1, 90, fun j => (sv_byt.getD 0 []).getD j 0), (adV 1, 1, 31, fun j => (sv_byt.getD 1 []).getD j 0)] := h
      simp only [List.mem_cons, List.not_mem_nil, or_false, Prod.mk.injEq] at h
      rcases h with ⟨rfl, rfl, rfl, rfl⟩ | ⟨rfl, rfl, rfl, rfl⟩ | ⟨rfl, rfl, rfl, rfl⟩ | ⟨rfl, rfl, rfl, rfl⟩ | ⟨rfl, rfl, rfl, rfl⟩ | ⟨rfl, rfl, rfl, rfl⟩ | ⟨rfl, rfl, rfl, rfl⟩
      · exact ⟨_, rfl, TX⟩
      · exact ⟨_, rfl, T0⟩
      · exact ⟨_, rfl, T1⟩
      · exact ⟨_, rfl, T2⟩
      · exact ⟨_, rfl, T3⟩
      · exact ⟨_, rfl, (hVS.1 0 (by decide)).2.2.2⟩
      · exact ⟨_, rfl, (hVS.1 1 (by decide)).2.2.2⟩
    · match k, hq with
      | 0, hq => cases hq; exact z0
      | 1, hq => cases hq; exact z1
      | 2, hq => cases hq; exact z2
      | 3, hq => cases hq; exact z3
      | 4, hq => cases hq; exact z4
      | 5, hq => cases hq; exact z5
      | k + 6, hq => simp [ex_sn] at hq
    · match j, hq with
      | 0, hq => cases hq; exact ⟨(hVS.1 0 (by decide)).1, (hVS.1 0 (by decide)).2.1, (hVS.1 0 (by decide)).2.2.1, vk_R.of (hts _ sr_0) (hVe 0 (by decide))⟩
      | 1, hq => cases hq; exact ⟨(hVS.1 1 (by decide)).1, (hVS.1 1 (by decide)).2.1, (hVS.1 1 (by decide)).2.2.1, vk_R.of (hts _ sr_1) (hVe 1 (by decide))⟩
      | k + 2, hq => simp [ex_tx] at hq
  · refine ⟨List.mem_cons_self, ⟨a0, rfl, ?_⟩, ⟨a1, rfl, ?_⟩, ⟨a2, rfl, ?_⟩, ⟨a3, rfl, ?_⟩, rfl, hv5, ?_, ?_⟩ <;> simp [gA, gS]
end
