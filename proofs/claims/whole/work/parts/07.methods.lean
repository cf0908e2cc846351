/-! What the tables say of methods and links (printed by wip/whole/gen_links.py). -/
noncomputable section
set_option maxRecDepth 20000 in
theorem pg_good : lw_tbl.all goodWord = true := by decide +kernel
def pg_sts : List Nat := [1, 2, 0, 0, 0, 0, 0, 0, 0, 0, 0, 0, 0, 0, 0, 0, 0, 0, 0, 0, 0, 0, 0, 0, 0, 0, 0, 0, 0, 0, 0, 0, 0, 0, 0, 0, 0, 0, 0, 0, 0, 0, 0, 0, 0, 0, 0, 1, 0, 1, 0, 0, 0, 1, 1, 0, 0, 1, 0, 1, 0, 1, 1, 2, 0, 0, 0, 0, 0, 0, 2, 0, 0, 0, 0, 0, 0, 0, 0, 0, 0, 0, 0, 0, 0, 0, 0, 0, 0, 0, 0, 0, 0, 0, 0, 0, 0, 0, 0, 0, 0, 0, 0, 0, 2, 0, 0, 0, 0, 0, 0, 0, 0, 2, 0, 0, 2, 0, 0, 0, 0, 0, 0, 0, 0, 0, 1, 1, 0, 0, 2, 0, 0, 0, 0, 0, 0, 0, 2, 0, 0, 0, 0, 0, 0, 0, 0, 1, 0, 2, 0, 0, 0, 0, 0, 2, 0, 0, 0, 0, 0, 0, 2, 1, 0, 0, 0, 1, 1, 1, 1, 0, 0, 0, 0, 0, 0, 0, 0, 0, 0, 0, 0, 0, 0, 1, 1, 0, 0, 0, 0, 0, 0, 0, 0, 0, 0, 0, 0, 0, 1, 0, 0, 0, 0, 1, 0, 0, 0, 0, 0, 0, 0, 0, 0, 0, 0, 0, 0, 0, 0, 0, 0, 0, 0, 0, 0, 0, 0, 0, 0, 0, 0, 0, 0, 0, 0, 0, 0, 0, 0, 0, 0, 0, 0, 0, 0, 0, 0, 0, 0, 0, 0, 0, 0, 0, 0, 0, 0, 0, 0, 0, 0, 0, 0, 0, 0, 0, 0, 0, 0, 0, 0, 0, 0, 0, 0, 1, 1, 1, 1, 1, 1, 0, 0, 0, 0, 1, 1, 1]
def pg_st (i : Nat) : Nat := pg_sts.getD i 0
def pg_okM (z : Nat) : Prop := Cond.code (pg_y z) (pg_b z) (pg_ml z) (pg_rt z) ∈ lw_tbl ∧ Cond.initialized (pg_y z).cls ∈ lw_tbl ∧ (∀ e ∈ pg_tabs.getD z [], decode (pg_b z) e.1 = .ok e.2) ∧ plainName (pg_y z).cls = true ∧ ((pg_y z).cls ≠ "java/lang/invoke/MethodHandle" ∧ (pg_y z).cls ≠ "java/lang/invoke/VarHandle" ∧ (parseMethodDescriptor (pg_y z).desc).map (fun d => d.parameters.length) = some (pg_na z)) ∧ pg_on (pg_oi z) = (pg_y z).cls
def pg_okV (z : Nat) : Prop := Cond.instanceMethod (pg_y z) ∈ lw_tbl ∧ Cond.selects (pg_y z).cls (pg_y z) (pg_y z) ∈ lw_tbl
def pg_okS (z : Nat) : Prop := Cond.static (pg_y z) ∈ lw_tbl
def pg_okI (z : Nat) : Prop := Cond.instanceMethod (pg_y z) ∈ lw_tbl ∧ (pg_y z).name = "<init>" ∧ pg_rt z = none
theorem pm_1 : pg_okM 1 := ⟨List.mem_of_getElem? (i := 118) (by decide +kernel), List.mem_of_getElem? (i := 96) (by decide +kernel), pd_1, by decide +kernel, by decide +kernel, by decide +kernel⟩
theorem pk_1 : pg_okI 1 := ⟨List.mem_of_getElem? (i := 117) (by decide +kernel), by decide +kernel, by decide +kernel⟩
theorem pm_2 : pg_okM 2 := ⟨List.mem_of_getElem? (i := 497) (by decide +kernel), List.mem_of_getElem? (i := 96) (by decide +kernel), pd_2, by decide +kernel, by decide +kernel, by decide +kernel⟩
theorem pk_2 : pg_okV 2 := ⟨List.mem_of_getElem? (i := 495) (by decide +kernel), List.mem_of_getElem? (i := 496) (by decide +kernel)⟩
theorem pm_3 : pg_okM 3 := ⟨List.mem_of_getElem? (i := 505) (by decide +kernel), List.mem_of_getElem? (i := 96) (by decide +kernel), pd_3, by decide +kernel, by decide +kernel, by decide +kernel⟩
theorem pk_3 : pg_okV 3 := ⟨List.mem_of_getElem? (i := 503) (by decide +kernel), List.mem_of_getElem? (i := 504) (by decide +kernel)⟩
theorem pm_4 : pg_okM 4 := ⟨List.mem_of_getElem? (i := 509) (by decide +kernel), List.mem_of_getElem? (i := 96) (by decide +kernel), pd_4, by decide +kernel, by decide +kernel, by decide +kernel⟩
theorem pk_4 : pg_okV 4 := ⟨List.mem_of_getElem? (i := 507) (by decide +kernel), List.mem_of_getElem? (i := 508) (by decide +kernel)⟩
theorem pm_5 : pg_okM 5 := ⟨List.mem_of_getElem? (i := 678) (by decide +kernel), List.mem_of_getElem? (i := 96) (by decide +kernel), pd_5, by decide +kernel, by decide +kernel, by decide +kernel⟩
theorem pk_5 : pg_okV 5 := ⟨List.mem_of_getElem? (i := 676) (by decide +kernel), List.mem_of_getElem? (i := 677) (by decide +kernel)⟩
theorem pm_6 : pg_okM 6 := ⟨List.mem_of_getElem? (i := 682) (by decide +kernel), List.mem_of_getElem? (i := 96) (by decide +kernel), pd_6, by decide +kernel, by decide +kernel, by decide +kernel⟩
theorem pk_6 : pg_okV 6 := ⟨List.mem_of_getElem? (i := 680) (by decide +kernel), List.mem_of_getElem? (i := 681) (by decide +kernel)⟩
theorem pm_7 : pg_okM 7 := ⟨List.mem_of_getElem? (i := 694) (by decide +kernel), List.mem_of_getElem? (i := 96) (by decide +kernel), pd_7, by decide +kernel, by decide +kernel, by decide +kernel⟩
theorem pk_7 : pg_okV 7 := ⟨List.mem_of_getElem? (i := 692) (by decide +kernel), List.mem_of_getElem? (i := 693) (by decide +kernel)⟩
theorem pm_8 : pg_okM 8 := ⟨List.mem_of_getElem? (i := 699) (by decide +kernel), List.mem_of_getElem? (i := 96) (by decide +kernel), pd_8, by decide +kernel, by decide +kernel, by decide +kernel⟩
theorem pk_8 : pg_okV 8 := ⟨List.mem_of_getElem? (i := 697) (by decide +kernel), List.mem_of_getElem? (i := 698) (by decide +kernel)⟩
theorem pm_9 : pg_okM 9 := ⟨List.mem_of_getElem? (i := 710) (by decide +kernel), List.mem_of_getElem? (i := 96) (by decide +kernel), pd_9, by decide +kernel, by decide +kernel, by decide +kernel⟩
theorem pk_9 : pg_okV 9 := ⟨List.mem_of_getElem? (i := 708) (by decide +kernel), List.mem_of_getElem? (i := 709) (by decide +kernel)⟩
theorem pm_10 : pg_okM 10 := ⟨List.mem_of_getElem? (i := 730) (by decide +kernel), List.mem_of_getElem? (i := 96) (by decide +kernel), pd_10, by decide +kernel, by decide +kernel, by decide +kernel⟩
theorem pk_10 : pg_okV 10 := ⟨List.mem_of_getElem? (i := 728) (by decide +kernel), List.mem_of_getElem? (i := 729) (by decide +kernel)⟩
theorem pm_11 : pg_okM 11 := ⟨List.mem_of_getElem? (i := 738) (by decide +kernel), List.mem_of_getElem? (i := 96) (by decide +kernel), pd_11, by decide +kernel, by decide +kernel, by decide +kernel⟩
theorem pk_11 : pg_okV 11 := ⟨List.mem_of_getElem? (i := 736) (by decide +kernel), List.mem_of_getElem? (i := 737) (by decide +kernel)⟩
theorem pm_12 : pg_okM 12 := ⟨List.mem_of_getElem? (i := 763) (by decide +kernel), List.mem_of_getElem? (i := 96) (by decide +kernel), pd_12, by decide +kernel, by decide +kernel, by decide +kernel⟩
theorem pk_12 : pg_okV 12 := ⟨List.mem_of_getElem? (i := 761) (by decide +kernel), List.mem_of_getElem? (i := 762) (by decide +kernel)⟩
theorem pm_13 : pg_okM 13 := ⟨List.mem_of_getElem? (i := 793) (by decide +kernel), List.mem_of_getElem? (i := 96) (by decide +kernel), pd_13, by decide +kernel, by decide +kernel, by decide +kernel⟩
theorem pk_13 : pg_okV 13 := ⟨List.mem_of_getElem? (i := 791) (by decide +kernel), List.mem_of_getElem? (i := 792) (by decide +kernel)⟩
theorem pm_14 : pg_okM 14 := ⟨List.mem_of_getElem? (i := 816) (by decide +kernel), List.mem_of_getElem? (i := 96) (by decide +kernel), pd_14, by decide +kernel, by decide +kernel, by decide +kernel⟩
theorem pk_14 : pg_okV 14 := ⟨List.mem_of_getElem? (i := 814) (by decide +kernel), List.mem_of_getElem? (i := 815) (by decide +kernel)⟩
theorem pm_15 : pg_okM 15 := ⟨List.mem_of_getElem? (i := 829) (by decide +kernel), List.mem_of_getElem? (i := 96) (by decide +kernel), pd_15, by decide +kernel, by decide +kernel, by decide +kernel⟩
theorem pk_15 : pg_okV 15 := ⟨List.mem_of_getElem? (i := 827) (by decide +kernel), List.mem_of_getElem? (i := 828) (by decide +kernel)⟩
theorem pm_16 : pg_okM 16 := ⟨List.mem_of_getElem? (i := 839) (by decide +kernel), List.mem_of_getElem? (i := 96) (by decide +kernel), pd_16, by decide +kernel, by decide +kernel, by decide +kernel⟩
theorem pk_16 : pg_okV 16 := ⟨List.mem_of_getElem? (i := 837) (by decide +kernel), List.mem_of_getElem? (i := 838) (by decide +kernel)⟩
theorem pm_17 : pg_okM 17 := ⟨List.mem_of_getElem? (i := 876) (by decide +kernel), List.mem_of_getElem? (i := 96) (by decide +kernel), pd_17, by decide +kernel, by decide +kernel, by decide +kernel⟩
theorem pk_17 : pg_okV 17 := ⟨List.mem_of_getElem? (i := 874) (by decide +kernel), List.mem_of_getElem? (i := 875) (by decide +kernel)⟩
theorem pm_18 : pg_okM 18 := ⟨List.mem_of_getElem? (i := 918) (by decide +kernel), List.mem_of_getElem? (i := 96) (by decide +kernel), pd_18, by decide +kernel, by decide +kernel, by decide +kernel⟩
theorem pk_18 : pg_okV 18 := ⟨List.mem_of_getElem? (i := 916) (by decide +kernel), List.mem_of_getElem? (i := 917) (by decide +kernel)⟩
theorem pm_19 : pg_okM 19 := ⟨List.mem_of_getElem? (i := 935) (by decide +kernel), List.mem_of_getElem? (i := 96) (by decide +kernel), pd_19, by decide +kernel, by decide +kernel, by decide +kernel⟩
theorem pk_19 : pg_okV 19 := ⟨List.mem_of_getElem? (i := 933) (by decide +kernel), List.mem_of_getElem? (i := 934) (by decide +kernel)⟩
theorem pm_20 : pg_okM 20 := ⟨List.mem_of_getElem? (i := 945) (by decide +kernel), List.mem_of_getElem? (i := 96) (by decide +kernel), pd_20, by decide +kernel, by decide +kernel, by decide +kernel⟩
theorem pk_20 : pg_okV 20 := ⟨List.mem_of_getElem? (i := 943) (by decide +kernel), List.mem_of_getElem? (i := 944) (by decide +kernel)⟩
theorem pm_21 : pg_okM 21 := ⟨List.mem_of_getElem? (i := 949) (by decide +kernel), List.mem_of_getElem? (i := 96) (by decide +kernel), pd_21, by decide +kernel, by decide +kernel, by decide +kernel⟩
theorem pk_21 : pg_okV 21 := ⟨List.mem_of_getElem? (i := 947) (by decide +kernel), List.mem_of_getElem? (i := 948) (by decide +kernel)⟩
theorem pm_22 : pg_okM 22 := ⟨List.mem_of_getElem? (i := 969) (by decide +kernel), List.mem_of_getElem? (i := 96) (by decide +kernel), pd_22, by decide +kernel, by decide +kernel, by decide +kernel⟩
theorem pk_22 : pg_okV 22 := ⟨List.mem_of_getElem? (i := 967) (by decide +kernel), List.mem_of_getElem? (i := 968) (by decide +kernel)⟩
theorem pm_23 : pg_okM 23 := ⟨List.mem_of_getElem? (i := 987) (by decide +kernel), List.mem_of_getElem? (i := 96) (by decide +kernel), pd_23, by decide +kernel, by decide +kernel, by decide +kernel⟩
theorem pk_23 : pg_okV 23 := ⟨List.mem_of_getElem? (i := 985) (by decide +kernel), List.mem_of_getElem? (i := 986) (by decide +kernel)⟩
theorem pm_24 : pg_okM 24 := ⟨List.mem_of_getElem? (i := 1004) (by decide +kernel), List.mem_of_getElem? (i := 96) (by decide +kernel), pd_24, by decide +kernel, by decide +kernel, by decide +kernel⟩
theorem pk_24 : pg_okV 24 := ⟨List.mem_of_getElem? (i := 1002) (by decide +kernel), List.mem_of_getElem? (i := 1003) (by decide +kernel)⟩
theorem pm_25 : pg_okM 25 := ⟨List.mem_of_getElem? (i := 1019) (by decide +kernel), List.mem_of_getElem? (i := 96) (by decide +kernel), pd_25, by decide +kernel, by decide +kernel, by decide +kernel⟩
theorem pk_25 : pg_okV 25 := ⟨List.mem_of_getElem? (i := 1017) (by decide +kernel), List.mem_of_getElem? (i := 1018) (by decide +kernel)⟩
theorem pm_26 : pg_okM 26 := ⟨List.mem_of_getElem? (i := 1023) (by decide +kernel), List.mem_of_getElem? (i := 96) (by decide +kernel), pd_26, by decide +kernel, by decide +kernel, by decide +kernel⟩
theorem pk_26 : pg_okV 26 := ⟨List.mem_of_getElem? (i := 1021) (by decide +kernel), List.mem_of_getElem? (i := 1022) (by decide +kernel)⟩
theorem pm_27 : pg_okM 27 := ⟨List.mem_of_getElem? (i := 1055) (by decide +kernel), List.mem_of_getElem? (i := 96) (by decide +kernel), pd_27, by decide +kernel, by decide +kernel, by decide +kernel⟩
theorem pk_27 : pg_okV 27 := ⟨List.mem_of_getElem? (i := 1053) (by decide +kernel), List.mem_of_getElem? (i := 1054) (by decide +kernel)⟩
theorem pm_28 : pg_okM 28 := ⟨List.mem_of_getElem? (i := 1086) (by decide +kernel), List.mem_of_getElem? (i := 96) (by decide +kernel), pd_28, by decide +kernel, by decide +kernel, by decide +kernel⟩
theorem pk_28 : pg_okV 28 := ⟨List.mem_of_getElem? (i := 1084) (by decide +kernel), List.mem_of_getElem? (i := 1085) (by decide +kernel)⟩
theorem pm_29 : pg_okM 29 := ⟨List.mem_of_getElem? (i := 1094) (by decide +kernel), List.mem_of_getElem? (i := 96) (by decide +kernel), pd_29, by decide +kernel, by decide +kernel, by decide +kernel⟩
theorem pk_29 : pg_okV 29 := ⟨List.mem_of_getElem? (i := 1092) (by decide +kernel), List.mem_of_getElem? (i := 1093) (by decide +kernel)⟩
theorem pm_30 : pg_okM 30 := ⟨List.mem_of_getElem? (i := 1107) (by decide +kernel), List.mem_of_getElem? (i := 96) (by decide +kernel), pd_30, by decide +kernel, by decide +kernel, by decide +kernel⟩
theorem pk_30 : pg_okV 30 := ⟨List.mem_of_getElem? (i := 1105) (by decide +kernel), List.mem_of_getElem? (i := 1106) (by decide +kernel)⟩
theorem pm_31 : pg_okM 31 := ⟨List.mem_of_getElem? (i := 1111) (by decide +kernel), List.mem_of_getElem? (i := 96) (by decide +kernel), pd_31, by decide +kernel, by decide +kernel, by decide +kernel⟩
theorem pk_31 : pg_okV 31 := ⟨List.mem_of_getElem? (i := 1109) (by decide +kernel), List.mem_of_getElem? (i := 1110) (by decide +kernel)⟩
theorem pm_32 : pg_okM 32 := ⟨List.mem_of_getElem? (i := 1120) (by decide +kernel), List.mem_of_getElem? (i := 96) (by decide +kernel), pd_32, by decide +kernel, by decide +kernel, by decide +kernel⟩
theorem pk_32 : pg_okV 32 := ⟨List.mem_of_getElem? (i := 1118) (by decide +kernel), List.mem_of_getElem? (i := 1119) (by decide +kernel)⟩
theorem pm_33 : pg_okM 33 := ⟨List.mem_of_getElem? (i := 1126) (by decide +kernel), List.mem_of_getElem? (i := 96) (by decide +kernel), pd_33, by decide +kernel, by decide +kernel, by decide +kernel⟩
theorem pk_33 : pg_okV 33 := ⟨List.mem_of_getElem? (i := 1124) (by decide +kernel), List.mem_of_getElem? (i := 1125) (by decide +kernel)⟩
theorem pm_34 : pg_okM 34 := ⟨List.mem_of_getElem? (i := 1134) (by decide +kernel), List.mem_of_getElem? (i := 96) (by decide +kernel), pd_34, by decide +kernel, by decide +kernel, by decide +kernel⟩
theorem pk_34 : pg_okV 34 := ⟨List.mem_of_getElem? (i := 1132) (by decide +kernel), List.mem_of_getElem? (i := 1133) (by decide +kernel)⟩
theorem pm_35 : pg_okM 35 := ⟨List.mem_of_getElem? (i := 1139) (by decide +kernel), List.mem_of_getElem? (i := 96) (by decide +kernel), pd_35, by decide +kernel, by decide +kernel, by decide +kernel⟩
theorem pk_35 : pg_okV 35 := ⟨List.mem_of_getElem? (i := 1137) (by decide +kernel), List.mem_of_getElem? (i := 1138) (by decide +kernel)⟩
theorem pm_36 : pg_okM 36 := ⟨List.mem_of_getElem? (i := 1144) (by decide +kernel), List.mem_of_getElem? (i := 96) (by decide +kernel), pd_36, by decide +kernel, by decide +kernel, by decide +kernel⟩
theorem pk_36 : pg_okV 36 := ⟨List.mem_of_getElem? (i := 1142) (by decide +kernel), List.mem_of_getElem? (i := 1143) (by decide +kernel)⟩
theorem pm_37 : pg_okM 37 := ⟨List.mem_of_getElem? (i := 1152) (by decide +kernel), List.mem_of_getElem? (i := 96) (by decide +kernel), pd_37, by decide +kernel, by decide +kernel, by decide +kernel⟩
theorem pk_37 : pg_okV 37 := ⟨List.mem_of_getElem? (i := 1150) (by decide +kernel), List.mem_of_getElem? (i := 1151) (by decide +kernel)⟩
theorem pm_38 : pg_okM 38 := ⟨List.mem_of_getElem? (i := 1171) (by decide +kernel), List.mem_of_getElem? (i := 96) (by decide +kernel), pd_38, by decide +kernel, by decide +kernel, by decide +kernel⟩
theorem pk_38 : pg_okV 38 := ⟨List.mem_of_getElem? (i := 1169) (by decide +kernel), List.mem_of_getElem? (i := 1170) (by decide +kernel)⟩
theorem pm_39 : pg_okM 39 := ⟨List.mem_of_getElem? (i := 1175) (by decide +kernel), List.mem_of_getElem? (i := 96) (by decide +kernel), pd_39, by decide +kernel, by decide +kernel, by decide +kernel⟩
theorem pk_39 : pg_okV 39 := ⟨List.mem_of_getElem? (i := 1173) (by decide +kernel), List.mem_of_getElem? (i := 1174) (by decide +kernel)⟩
theorem pm_40 : pg_okM 40 := ⟨List.mem_of_getElem? (i := 1179) (by decide +kernel), List.mem_of_getElem? (i := 96) (by decide +kernel), pd_40, by decide +kernel, by decide +kernel, by decide +kernel⟩
theorem pk_40 : pg_okV 40 := ⟨List.mem_of_getElem? (i := 1177) (by decide +kernel), List.mem_of_getElem? (i := 1178) (by decide +kernel)⟩
theorem pm_41 : pg_okM 41 := ⟨List.mem_of_getElem? (i := 1187) (by decide +kernel), List.mem_of_getElem? (i := 96) (by decide +kernel), pd_41, by decide +kernel, by decide +kernel, by decide +kernel⟩
theorem pk_41 : pg_okV 41 := ⟨List.mem_of_getElem? (i := 1185) (by decide +kernel), List.mem_of_getElem? (i := 1186) (by decide +kernel)⟩
theorem pm_42 : pg_okM 42 := ⟨List.mem_of_getElem? (i := 1191) (by decide +kernel), List.mem_of_getElem? (i := 96) (by decide +kernel), pd_42, by decide +kernel, by decide +kernel, by decide +kernel⟩
theorem pk_42 : pg_okV 42 := ⟨List.mem_of_getElem? (i := 1189) (by decide +kernel), List.mem_of_getElem? (i := 1190) (by decide +kernel)⟩
theorem pm_43 : pg_okM 43 := ⟨List.mem_of_getElem? (i := 1195) (by decide +kernel), List.mem_of_getElem? (i := 96) (by decide +kernel), pd_43, by decide +kernel, by decide +kernel, by decide +kernel⟩
theorem pk_43 : pg_okV 43 := ⟨List.mem_of_getElem? (i := 1193) (by decide +kernel), List.mem_of_getElem? (i := 1194) (by decide +kernel)⟩
theorem pm_44 : pg_okM 44 := ⟨List.mem_of_getElem? (i := 1199) (by decide +kernel), List.mem_of_getElem? (i := 96) (by decide +kernel), pd_44, by decide +kernel, by decide +kernel, by decide +kernel⟩
theorem pk_44 : pg_okV 44 := ⟨List.mem_of_getElem? (i := 1197) (by decide +kernel), List.mem_of_getElem? (i := 1198) (by decide +kernel)⟩
theorem pm_45 : pg_okM 45 := ⟨List.mem_of_getElem? (i := 1203) (by decide +kernel), List.mem_of_getElem? (i := 96) (by decide +kernel), pd_45, by decide +kernel, by decide +kernel, by decide +kernel⟩
theorem pk_45 : pg_okV 45 := ⟨List.mem_of_getElem? (i := 1201) (by decide +kernel), List.mem_of_getElem? (i := 1202) (by decide +kernel)⟩
theorem pm_46 : pg_okM 46 := ⟨List.mem_of_getElem? (i := 1212) (by decide +kernel), List.mem_of_getElem? (i := 96) (by decide +kernel), pd_46, by decide +kernel, by decide +kernel, by decide +kernel⟩
theorem pk_46 : pg_okV 46 := ⟨List.mem_of_getElem? (i := 1210) (by decide +kernel), List.mem_of_getElem? (i := 1211) (by decide +kernel)⟩
theorem pm_47 : pg_okM 47 := ⟨List.mem_of_getElem? (i := 512) (by decide +kernel), List.mem_of_getElem? (i := 96) (by decide +kernel), pd_47, by decide +kernel, by decide +kernel, by decide +kernel⟩
theorem pk_47 : pg_okS 47 := List.mem_of_getElem? (i := 511) (by decide +kernel)
theorem pm_48 : pg_okM 48 := ⟨List.mem_of_getElem? (i := 714) (by decide +kernel), List.mem_of_getElem? (i := 96) (by decide +kernel), pd_48, by decide +kernel, by decide +kernel, by decide +kernel⟩
theorem pk_48 : pg_okV 48 := ⟨List.mem_of_getElem? (i := 713) (by decide +kernel), List.mem_of_getElem? (i := 11) (by decide +kernel)⟩
theorem pm_49 : pg_okM 49 := ⟨List.mem_of_getElem? (i := 706) (by decide +kernel), List.mem_of_getElem? (i := 96) (by decide +kernel), pd_49, by decide +kernel, by decide +kernel, by decide +kernel⟩
theorem pk_49 : pg_okS 49 := List.mem_of_getElem? (i := 705) (by decide +kernel)
theorem pm_50 : pg_okM 50 := ⟨List.mem_of_getElem? (i := 1130) (by decide +kernel), List.mem_of_getElem? (i := 96) (by decide +kernel), pd_50, by decide +kernel, by decide +kernel, by decide +kernel⟩
theorem pk_50 : pg_okV 50 := ⟨List.mem_of_getElem? (i := 1129) (by decide +kernel), List.mem_of_getElem? (i := 33) (by decide +kernel)⟩
theorem pm_51 : pg_okM 51 := ⟨List.mem_of_getElem? (i := 809) (by decide +kernel), List.mem_of_getElem? (i := 96) (by decide +kernel), pd_51, by decide +kernel, by decide +kernel, by decide +kernel⟩
theorem pk_51 : pg_okV 51 := ⟨List.mem_of_getElem? (i := 808) (by decide +kernel), List.mem_of_getElem? (i := 14) (by decide +kernel)⟩
theorem pm_52 : pg_okM 52 := ⟨List.mem_of_getElem? (i := 797) (by decide +kernel), List.mem_of_getElem? (i := 96) (by decide +kernel), pd_52, by decide +kernel, by decide +kernel, by decide +kernel⟩
theorem pk_52 : pg_okV 52 := ⟨List.mem_of_getElem? (i := 796) (by decide +kernel), List.mem_of_getElem? (i := 13) (by decide +kernel)⟩
theorem pm_53 : pg_okM 53 := ⟨List.mem_of_getElem? (i := 800) (by decide +kernel), List.mem_of_getElem? (i := 96) (by decide +kernel), pd_53, by decide +kernel, by decide +kernel, by decide +kernel⟩
theorem pk_53 : pg_okS 53 := List.mem_of_getElem? (i := 799) (by decide +kernel)
theorem pm_54 : pg_okM 54 := ⟨List.mem_of_getElem? (i := 812) (by decide +kernel), List.mem_of_getElem? (i := 96) (by decide +kernel), pd_54, by decide +kernel, by decide +kernel, by decide +kernel⟩
theorem pk_54 : pg_okS 54 := List.mem_of_getElem? (i := 811) (by decide +kernel)
theorem pm_55 : pg_okM 55 := ⟨List.mem_of_getElem? (i := 922) (by decide +kernel), List.mem_of_getElem? (i := 96) (by decide +kernel), pd_55, by decide +kernel, by decide +kernel, by decide +kernel⟩
theorem pk_55 : pg_okV 55 := ⟨List.mem_of_getElem? (i := 921) (by decide +kernel), List.mem_of_getElem? (i := 22) (by decide +kernel)⟩
theorem pm_56 : pg_okM 56 := ⟨List.mem_of_getElem? (i := 931) (by decide +kernel), List.mem_of_getElem? (i := 96) (by decide +kernel), pd_56, by decide +kernel, by decide +kernel, by decide +kernel⟩
theorem pk_56 : pg_okV 56 := ⟨List.mem_of_getElem? (i := 930) (by decide +kernel), List.mem_of_getElem? (i := 23) (by decide +kernel)⟩
theorem pm_57 : pg_okM 57 := ⟨List.mem_of_getElem? (i := 938) (by decide +kernel), List.mem_of_getElem? (i := 96) (by decide +kernel), pd_57, by decide +kernel, by decide +kernel, by decide +kernel⟩
theorem pk_57 : pg_okS 57 := List.mem_of_getElem? (i := 937) (by decide +kernel)
theorem pm_58 : pg_okM 58 := ⟨List.mem_of_getElem? (i := 953) (by decide +kernel), List.mem_of_getElem? (i := 96) (by decide +kernel), pd_58, by decide +kernel, by decide +kernel, by decide +kernel⟩
theorem pk_58 : pg_okV 58 := ⟨List.mem_of_getElem? (i := 952) (by decide +kernel), List.mem_of_getElem? (i := 24) (by decide +kernel)⟩
theorem pm_59 : pg_okM 59 := ⟨List.mem_of_getElem? (i := 961) (by decide +kernel), List.mem_of_getElem? (i := 96) (by decide +kernel), pd_59, by decide +kernel, by decide +kernel, by decide +kernel⟩
theorem pk_59 : pg_okS 59 := List.mem_of_getElem? (i := 960) (by decide +kernel)
theorem pm_60 : pg_okM 60 := ⟨List.mem_of_getElem? (i := 1148) (by decide +kernel), List.mem_of_getElem? (i := 96) (by decide +kernel), pd_60, by decide +kernel, by decide +kernel, by decide +kernel⟩
theorem pk_60 : pg_okV 60 := ⟨List.mem_of_getElem? (i := 1147) (by decide +kernel), List.mem_of_getElem? (i := 34) (by decide +kernel)⟩
theorem pm_61 : pg_okM 61 := ⟨List.mem_of_getElem? (i := 1155) (by decide +kernel), List.mem_of_getElem? (i := 96) (by decide +kernel), pd_61, by decide +kernel, by decide +kernel, by decide +kernel⟩
theorem pk_61 : pg_okS 61 := List.mem_of_getElem? (i := 1154) (by decide +kernel)
theorem pm_62 : pg_okM 62 := ⟨List.mem_of_getElem? (i := 1159) (by decide +kernel), List.mem_of_getElem? (i := 96) (by decide +kernel), pd_62, by decide +kernel, by decide +kernel, by decide +kernel⟩
theorem pk_62 : pg_okS 62 := List.mem_of_getElem? (i := 1158) (by decide +kernel)
theorem pm_63 : pg_okM 63 := ⟨List.mem_of_getElem? (i := 126) (by decide +kernel), List.mem_of_getElem? (i := 97) (by decide +kernel), pd_63, by decide +kernel, by decide +kernel, by decide +kernel⟩
theorem pk_63 : pg_okI 63 := ⟨List.mem_of_getElem? (i := 125) (by decide +kernel), by decide +kernel, by decide +kernel⟩
theorem pm_64 : pg_okM 64 := ⟨List.mem_of_getElem? (i := 1207) (by decide +kernel), List.mem_of_getElem? (i := 97) (by decide +kernel), pd_64, by decide +kernel, by decide +kernel, by decide +kernel⟩
theorem pk_64 : pg_okV 64 := ⟨List.mem_of_getElem? (i := 1205) (by decide +kernel), List.mem_of_getElem? (i := 1206) (by decide +kernel)⟩
theorem pm_65 : pg_okM 65 := ⟨List.mem_of_getElem? (i := 501) (by decide +kernel), List.mem_of_getElem? (i := 97) (by decide +kernel), pd_65, by decide +kernel, by decide +kernel, by decide +kernel⟩
theorem pk_65 : pg_okV 65 := ⟨List.mem_of_getElem? (i := 499) (by decide +kernel), List.mem_of_getElem? (i := 500) (by decide +kernel)⟩
theorem pm_66 : pg_okM 66 := ⟨List.mem_of_getElem? (i := 686) (by decide +kernel), List.mem_of_getElem? (i := 97) (by decide +kernel), pd_66, by decide +kernel, by decide +kernel, by decide +kernel⟩
theorem pk_66 : pg_okV 66 := ⟨List.mem_of_getElem? (i := 684) (by decide +kernel), List.mem_of_getElem? (i := 685) (by decide +kernel)⟩
theorem pm_67 : pg_okM 67 := ⟨List.mem_of_getElem? (i := 703) (by decide +kernel), List.mem_of_getElem? (i := 97) (by decide +kernel), pd_67, by decide +kernel, by decide +kernel, by decide +kernel⟩
theorem pk_67 : pg_okV 67 := ⟨List.mem_of_getElem? (i := 701) (by decide +kernel), List.mem_of_getElem? (i := 702) (by decide +kernel)⟩
theorem pm_68 : pg_okM 68 := ⟨List.mem_of_getElem? (i := 655) (by decide +kernel), List.mem_of_getElem? (i := 97) (by decide +kernel), pd_68, by decide +kernel, by decide +kernel, by decide +kernel⟩
theorem pk_68 : pg_okV 68 := ⟨List.mem_of_getElem? (i := 653) (by decide +kernel), List.mem_of_getElem? (i := 654) (by decide +kernel)⟩
theorem pm_69 : pg_okM 69 := ⟨List.mem_of_getElem? (i := 666) (by decide +kernel), List.mem_of_getElem? (i := 97) (by decide +kernel), pd_69, by decide +kernel, by decide +kernel, by decide +kernel⟩
theorem pk_69 : pg_okV 69 := ⟨List.mem_of_getElem? (i := 664) (by decide +kernel), List.mem_of_getElem? (i := 665) (by decide +kernel)⟩
theorem pm_70 : pg_okM 70 := ⟨List.mem_of_getElem? (i := 135) (by decide +kernel), List.mem_of_getElem? (i := 98) (by decide +kernel), pd_70, by decide +kernel, by decide +kernel, by decide +kernel⟩
theorem pk_70 : pg_okI 70 := ⟨List.mem_of_getElem? (i := 134) (by decide +kernel), by decide +kernel, by decide +kernel⟩
theorem pm_71 : pg_okM 71 := ⟨List.mem_of_getElem? (i := 523) (by decide +kernel), List.mem_of_getElem? (i := 98) (by decide +kernel), pd_71, by decide +kernel, by decide +kernel, by decide +kernel⟩
theorem pk_71 : pg_okV 71 := ⟨List.mem_of_getElem? (i := 521) (by decide +kernel), List.mem_of_getElem? (i := 522) (by decide +kernel)⟩
theorem pm_72 : pg_okM 72 := ⟨List.mem_of_getElem? (i := 659) (by decide +kernel), List.mem_of_getElem? (i := 98) (by decide +kernel), pd_72, by decide +kernel, by decide +kernel, by decide +kernel⟩
theorem pk_72 : pg_okV 72 := ⟨List.mem_of_getElem? (i := 657) (by decide +kernel), List.mem_of_getElem? (i := 658) (by decide +kernel)⟩
theorem pm_73 : pg_okM 73 := ⟨List.mem_of_getElem? (i := 634) (by decide +kernel), List.mem_of_getElem? (i := 98) (by decide +kernel), pd_73, by decide +kernel, by decide +kernel, by decide +kernel⟩
theorem pk_73 : pg_okV 73 := ⟨List.mem_of_getElem? (i := 632) (by decide +kernel), List.mem_of_getElem? (i := 633) (by decide +kernel)⟩
theorem pm_74 : pg_okM 74 := ⟨List.mem_of_getElem? (i := 647) (by decide +kernel), List.mem_of_getElem? (i := 98) (by decide +kernel), pd_74, by decide +kernel, by decide +kernel, by decide +kernel⟩
theorem pk_74 : pg_okV 74 := ⟨List.mem_of_getElem? (i := 645) (by decide +kernel), List.mem_of_getElem? (i := 646) (by decide +kernel)⟩
theorem pm_75 : pg_okM 75 := ⟨List.mem_of_getElem? (i := 638) (by decide +kernel), List.mem_of_getElem? (i := 98) (by decide +kernel), pd_75, by decide +kernel, by decide +kernel, by decide +kernel⟩
theorem pk_75 : pg_okV 75 := ⟨List.mem_of_getElem? (i := 636) (by decide +kernel), List.mem_of_getElem? (i := 637) (by decide +kernel)⟩
theorem pm_76 : pg_okM 76 := ⟨List.mem_of_getElem? (i := 643) (by decide +kernel), List.mem_of_getElem? (i := 98) (by decide +kernel), pd_76, by decide +kernel, by decide +kernel, by decide +kernel⟩
theorem pk_76 : pg_okV 76 := ⟨List.mem_of_getElem? (i := 642) (by decide +kernel), List.mem_of_getElem? (i := 9) (by decide +kernel)⟩
theorem pm_77 : pg_okM 77 := ⟨List.mem_of_getElem? (i := 626) (by decide +kernel), List.mem_of_getElem? (i := 98) (by decide +kernel), pd_77, by decide +kernel, by decide +kernel, by decide +kernel⟩
theorem pk_77 : pg_okV 77 := ⟨List.mem_of_getElem? (i := 624) (by decide +kernel), List.mem_of_getElem? (i := 625) (by decide +kernel)⟩
theorem pm_78 : pg_okM 78 := ⟨List.mem_of_getElem? (i := 722) (by decide +kernel), List.mem_of_getElem? (i := 98) (by decide +kernel), pd_78, by decide +kernel, by decide +kernel, by decide +kernel⟩
theorem pk_78 : pg_okV 78 := ⟨List.mem_of_getElem? (i := 720) (by decide +kernel), List.mem_of_getElem? (i := 721) (by decide +kernel)⟩
theorem pm_79 : pg_okM 79 := ⟨List.mem_of_getElem? (i := 804) (by decide +kernel), List.mem_of_getElem? (i := 98) (by decide +kernel), pd_79, by decide +kernel, by decide +kernel, by decide +kernel⟩
theorem pk_79 : pg_okV 79 := ⟨List.mem_of_getElem? (i := 802) (by decide +kernel), List.mem_of_getElem? (i := 803) (by decide +kernel)⟩
theorem pm_80 : pg_okM 80 := ⟨List.mem_of_getElem? (i := 726) (by decide +kernel), List.mem_of_getElem? (i := 98) (by decide +kernel), pd_80, by decide +kernel, by decide +kernel, by decide +kernel⟩
theorem pk_80 : pg_okV 80 := ⟨List.mem_of_getElem? (i := 724) (by decide +kernel), List.mem_of_getElem? (i := 725) (by decide +kernel)⟩
theorem pm_81 : pg_okM 81 := ⟨List.mem_of_getElem? (i := 690) (by decide +kernel), List.mem_of_getElem? (i := 98) (by decide +kernel), pd_81, by decide +kernel, by decide +kernel, by decide +kernel⟩
theorem pk_81 : pg_okV 81 := ⟨List.mem_of_getElem? (i := 688) (by decide +kernel), List.mem_of_getElem? (i := 689) (by decide +kernel)⟩
theorem pm_82 : pg_okM 82 := ⟨List.mem_of_getElem? (i := 754) (by decide +kernel), List.mem_of_getElem? (i := 98) (by decide +kernel), pd_82, by decide +kernel, by decide +kernel, by decide +kernel⟩
theorem pk_82 : pg_okV 82 := ⟨List.mem_of_getElem? (i := 752) (by decide +kernel), List.mem_of_getElem? (i := 753) (by decide +kernel)⟩
theorem pm_83 : pg_okM 83 := ⟨List.mem_of_getElem? (i := 1072) (by decide +kernel), List.mem_of_getElem? (i := 98) (by decide +kernel), pd_83, by decide +kernel, by decide +kernel, by decide +kernel⟩
theorem pk_83 : pg_okV 83 := ⟨List.mem_of_getElem? (i := 1070) (by decide +kernel), List.mem_of_getElem? (i := 1071) (by decide +kernel)⟩
theorem pm_84 : pg_okM 84 := ⟨List.mem_of_getElem? (i := 750) (by decide +kernel), List.mem_of_getElem? (i := 98) (by decide +kernel), pd_84, by decide +kernel, by decide +kernel, by decide +kernel⟩
theorem pk_84 : pg_okV 84 := ⟨List.mem_of_getElem? (i := 748) (by decide +kernel), List.mem_of_getElem? (i := 749) (by decide +kernel)⟩
theorem pm_85 : pg_okM 85 := ⟨List.mem_of_getElem? (i := 758) (by decide +kernel), List.mem_of_getElem? (i := 98) (by decide +kernel), pd_85, by decide +kernel, by decide +kernel, by decide +kernel⟩
theorem pk_85 : pg_okV 85 := ⟨List.mem_of_getElem? (i := 757) (by decide +kernel), List.mem_of_getElem? (i := 12) (by decide +kernel)⟩
theorem pm_86 : pg_okM 86 := ⟨List.mem_of_getElem? (i := 746) (by decide +kernel), List.mem_of_getElem? (i := 98) (by decide +kernel), pd_86, by decide +kernel, by decide +kernel, by decide +kernel⟩
theorem pk_86 : pg_okV 86 := ⟨List.mem_of_getElem? (i := 744) (by decide +kernel), List.mem_of_getElem? (i := 745) (by decide +kernel)⟩
theorem pm_87 : pg_okM 87 := ⟨List.mem_of_getElem? (i := 742) (by decide +kernel), List.mem_of_getElem? (i := 98) (by decide +kernel), pd_87, by decide +kernel, by decide +kernel, by decide +kernel⟩
theorem pk_87 : pg_okV 87 := ⟨List.mem_of_getElem? (i := 740) (by decide +kernel), List.mem_of_getElem? (i := 741) (by decide +kernel)⟩
theorem pm_88 : pg_okM 88 := ⟨List.mem_of_getElem? (i := 782) (by decide +kernel), List.mem_of_getElem? (i := 98) (by decide +kernel), pd_88, by decide +kernel, by decide +kernel, by decide +kernel⟩
theorem pk_88 : pg_okV 88 := ⟨List.mem_of_getElem? (i := 780) (by decide +kernel), List.mem_of_getElem? (i := 781) (by decide +kernel)⟩
theorem pm_89 : pg_okM 89 := ⟨List.mem_of_getElem? (i := 789) (by decide +kernel), List.mem_of_getElem? (i := 98) (by decide +kernel), pd_89, by decide +kernel, by decide +kernel, by decide +kernel⟩
theorem pk_89 : pg_okV 89 := ⟨List.mem_of_getElem? (i := 787) (by decide +kernel), List.mem_of_getElem? (i := 788) (by decide +kernel)⟩
theorem pm_90 : pg_okM 90 := ⟨List.mem_of_getElem? (i := 771) (by decide +kernel), List.mem_of_getElem? (i := 98) (by decide +kernel), pd_90, by decide +kernel, by decide +kernel, by decide +kernel⟩
theorem pk_90 : pg_okV 90 := ⟨List.mem_of_getElem? (i := 769) (by decide +kernel), List.mem_of_getElem? (i := 770) (by decide +kernel)⟩
theorem pm_91 : pg_okM 91 := ⟨List.mem_of_getElem? (i := 767) (by decide +kernel), List.mem_of_getElem? (i := 98) (by decide +kernel), pd_91, by decide +kernel, by decide +kernel, by decide +kernel⟩
theorem pk_91 : pg_okV 91 := ⟨List.mem_of_getElem? (i := 765) (by decide +kernel), List.mem_of_getElem? (i := 766) (by decide +kernel)⟩
theorem pm_92 : pg_okM 92 := ⟨List.mem_of_getElem? (i := 851) (by decide +kernel), List.mem_of_getElem? (i := 98) (by decide +kernel), pd_92, by decide +kernel, by decide +kernel, by decide +kernel⟩
theorem pk_92 : pg_okV 92 := ⟨List.mem_of_getElem? (i := 849) (by decide +kernel), List.mem_of_getElem? (i := 850) (by decide +kernel)⟩
theorem pm_93 : pg_okM 93 := ⟨List.mem_of_getElem? (i := 1009) (by decide +kernel), List.mem_of_getElem? (i := 98) (by decide +kernel), pd_93, by decide +kernel, by decide +kernel, by decide +kernel⟩
theorem pk_93 : pg_okV 93 := ⟨List.mem_of_getElem? (i := 1007) (by decide +kernel), List.mem_of_getElem? (i := 1008) (by decide +kernel)⟩
theorem pm_94 : pg_okM 94 := ⟨List.mem_of_getElem? (i := 1015) (by decide +kernel), List.mem_of_getElem? (i := 98) (by decide +kernel), pd_94, by decide +kernel, by decide +kernel, by decide +kernel⟩
theorem pk_94 : pg_okV 94 := ⟨List.mem_of_getElem? (i := 1013) (by decide +kernel), List.mem_of_getElem? (i := 1014) (by decide +kernel)⟩
theorem pm_95 : pg_okM 95 := ⟨List.mem_of_getElem? (i := 897) (by decide +kernel), List.mem_of_getElem? (i := 98) (by decide +kernel), pd_95, by decide +kernel, by decide +kernel, by decide +kernel⟩
theorem pk_95 : pg_okV 95 := ⟨List.mem_of_getElem? (i := 895) (by decide +kernel), List.mem_of_getElem? (i := 896) (by decide +kernel)⟩
theorem pm_96 : pg_okM 96 := ⟨List.mem_of_getElem? (i := 965) (by decide +kernel), List.mem_of_getElem? (i := 98) (by decide +kernel), pd_96, by decide +kernel, by decide +kernel, by decide +kernel⟩
theorem pk_96 : pg_okV 96 := ⟨List.mem_of_getElem? (i := 963) (by decide +kernel), List.mem_of_getElem? (i := 964) (by decide +kernel)⟩
theorem pm_97 : pg_okM 97 := ⟨List.mem_of_getElem? (i := 926) (by decide +kernel), List.mem_of_getElem? (i := 98) (by decide +kernel), pd_97, by decide +kernel, by decide +kernel, by decide +kernel⟩
theorem pk_97 : pg_okV 97 := ⟨List.mem_of_getElem? (i := 924) (by decide +kernel), List.mem_of_getElem? (i := 925) (by decide +kernel)⟩
theorem pm_98 : pg_okM 98 := ⟨List.mem_of_getElem? (i := 1103) (by decide +kernel), List.mem_of_getElem? (i := 98) (by decide +kernel), pd_98, by decide +kernel, by decide +kernel, by decide +kernel⟩
theorem pk_98 : pg_okV 98 := ⟨List.mem_of_getElem? (i := 1101) (by decide +kernel), List.mem_of_getElem? (i := 1102) (by decide +kernel)⟩
theorem pm_99 : pg_okM 99 := ⟨List.mem_of_getElem? (i := 1098) (by decide +kernel), List.mem_of_getElem? (i := 98) (by decide +kernel), pd_99, by decide +kernel, by decide +kernel, by decide +kernel⟩
theorem pk_99 : pg_okV 99 := ⟨List.mem_of_getElem? (i := 1096) (by decide +kernel), List.mem_of_getElem? (i := 1097) (by decide +kernel)⟩
theorem pm_100 : pg_okM 100 := ⟨List.mem_of_getElem? (i := 1115) (by decide +kernel), List.mem_of_getElem? (i := 98) (by decide +kernel), pd_100, by decide +kernel, by decide +kernel, by decide +kernel⟩
theorem pk_100 : pg_okV 100 := ⟨List.mem_of_getElem? (i := 1113) (by decide +kernel), List.mem_of_getElem? (i := 1114) (by decide +kernel)⟩
theorem pm_101 : pg_okM 101 := ⟨List.mem_of_getElem? (i := 999) (by decide +kernel), List.mem_of_getElem? (i := 98) (by decide +kernel), pd_101, by decide +kernel, by decide +kernel, by decide +kernel⟩
theorem pk_101 : pg_okV 101 := ⟨List.mem_of_getElem? (i := 997) (by decide +kernel), List.mem_of_getElem? (i := 998) (by decide +kernel)⟩
theorem pm_102 : pg_okM 102 := ⟨List.mem_of_getElem? (i := 991) (by decide +kernel), List.mem_of_getElem? (i := 98) (by decide +kernel), pd_102, by decide +kernel, by decide +kernel, by decide +kernel⟩
theorem pk_102 : pg_okV 102 := ⟨List.mem_of_getElem? (i := 989) (by decide +kernel), List.mem_of_getElem? (i := 990) (by decide +kernel)⟩
theorem pm_103 : pg_okM 103 := ⟨List.mem_of_getElem? (i := 995) (by decide +kernel), List.mem_of_getElem? (i := 98) (by decide +kernel), pd_103, by decide +kernel, by decide +kernel, by decide +kernel⟩
theorem pk_103 : pg_okV 103 := ⟨List.mem_of_getElem? (i := 994) (by decide +kernel), List.mem_of_getElem? (i := 27) (by decide +kernel)⟩
theorem pm_104 : pg_okM 104 := ⟨List.mem_of_getElem? (i := 206) (by decide +kernel), List.mem_of_getElem? (i := 99) (by decide +kernel), pd_104, by decide +kernel, by decide +kernel, by decide +kernel⟩
theorem pk_104 : pg_okI 104 := ⟨List.mem_of_getElem? (i := 205) (by decide +kernel), by decide +kernel, by decide +kernel⟩
theorem pm_105 : pg_okM 105 := ⟨List.mem_of_getElem? (i := 670) (by decide +kernel), List.mem_of_getElem? (i := 99) (by decide +kernel), pd_105, by decide +kernel, by decide +kernel, by decide +kernel⟩
theorem pk_105 : pg_okV 105 := ⟨List.mem_of_getElem? (i := 668) (by decide +kernel), List.mem_of_getElem? (i := 669) (by decide +kernel)⟩
theorem pm_106 : pg_okM 106 := ⟨List.mem_of_getElem? (i := 718) (by decide +kernel), List.mem_of_getElem? (i := 99) (by decide +kernel), pd_106, by decide +kernel, by decide +kernel, by decide +kernel⟩
theorem pk_106 : pg_okV 106 := ⟨List.mem_of_getElem? (i := 716) (by decide +kernel), List.mem_of_getElem? (i := 717) (by decide +kernel)⟩
theorem pm_107 : pg_okM 107 := ⟨List.mem_of_getElem? (i := 821) (by decide +kernel), List.mem_of_getElem? (i := 99) (by decide +kernel), pd_107, by decide +kernel, by decide +kernel, by decide +kernel⟩
theorem pk_107 : pg_okV 107 := ⟨List.mem_of_getElem? (i := 819) (by decide +kernel), List.mem_of_getElem? (i := 820) (by decide +kernel)⟩
theorem pm_108 : pg_okM 108 := ⟨List.mem_of_getElem? (i := 825) (by decide +kernel), List.mem_of_getElem? (i := 99) (by decide +kernel), pd_108, by decide +kernel, by decide +kernel, by decide +kernel⟩
theorem pk_108 : pg_okV 108 := ⟨List.mem_of_getElem? (i := 823) (by decide +kernel), List.mem_of_getElem? (i := 824) (by decide +kernel)⟩
theorem pm_109 : pg_okM 109 := ⟨List.mem_of_getElem? (i := 834) (by decide +kernel), List.mem_of_getElem? (i := 99) (by decide +kernel), pd_109, by decide +kernel, by decide +kernel, by decide +kernel⟩
theorem pk_109 : pg_okV 109 := ⟨List.mem_of_getElem? (i := 832) (by decide +kernel), List.mem_of_getElem? (i := 833) (by decide +kernel)⟩
theorem pm_110 : pg_okM 110 := ⟨List.mem_of_getElem? (i := 957) (by decide +kernel), List.mem_of_getElem? (i := 99) (by decide +kernel), pd_110, by decide +kernel, by decide +kernel, by decide +kernel⟩
theorem pk_110 : pg_okV 110 := ⟨List.mem_of_getElem? (i := 955) (by decide +kernel), List.mem_of_getElem? (i := 956) (by decide +kernel)⟩
theorem pm_111 : pg_okM 111 := ⟨List.mem_of_getElem? (i := 1163) (by decide +kernel), List.mem_of_getElem? (i := 99) (by decide +kernel), pd_111, by decide +kernel, by decide +kernel, by decide +kernel⟩
theorem pk_111 : pg_okV 111 := ⟨List.mem_of_getElem? (i := 1161) (by decide +kernel), List.mem_of_getElem? (i := 1162) (by decide +kernel)⟩
theorem pm_112 : pg_okM 112 := ⟨List.mem_of_getElem? (i := 1167) (by decide +kernel), List.mem_of_getElem? (i := 99) (by decide +kernel), pd_112, by decide +kernel, by decide +kernel, by decide +kernel⟩
theorem pk_112 : pg_okV 112 := ⟨List.mem_of_getElem? (i := 1165) (by decide +kernel), List.mem_of_getElem? (i := 1166) (by decide +kernel)⟩
theorem pm_113 : pg_okM 113 := ⟨List.mem_of_getElem? (i := 213) (by decide +kernel), List.mem_of_getElem? (i := 100) (by decide +kernel), pd_113, by decide +kernel, by decide +kernel, by decide +kernel⟩
theorem pk_113 : pg_okI 113 := ⟨List.mem_of_getElem? (i := 212) (by decide +kernel), by decide +kernel, by decide +kernel⟩
theorem pm_114 : pg_okM 114 := ⟨List.mem_of_getElem? (i := 674) (by decide +kernel), List.mem_of_getElem? (i := 100) (by decide +kernel), pd_114, by decide +kernel, by decide +kernel, by decide +kernel⟩
theorem pk_114 : pg_okV 114 := ⟨List.mem_of_getElem? (i := 672) (by decide +kernel), List.mem_of_getElem? (i := 673) (by decide +kernel)⟩
theorem pm_115 : pg_okM 115 := ⟨List.mem_of_getElem? (i := 734) (by decide +kernel), List.mem_of_getElem? (i := 100) (by decide +kernel), pd_115, by decide +kernel, by decide +kernel, by decide +kernel⟩
theorem pk_115 : pg_okV 115 := ⟨List.mem_of_getElem? (i := 732) (by decide +kernel), List.mem_of_getElem? (i := 733) (by decide +kernel)⟩
theorem pm_116 : pg_okM 116 := ⟨List.mem_of_getElem? (i := 313) (by decide +kernel), List.mem_of_getElem? (i := 101) (by decide +kernel), pd_116, by decide +kernel, by decide +kernel, by decide +kernel⟩
theorem pk_116 : pg_okI 116 := ⟨List.mem_of_getElem? (i := 312) (by decide +kernel), by decide +kernel, by decide +kernel⟩
theorem pm_117 : pg_okM 117 := ⟨List.mem_of_getElem? (i := 516) (by decide +kernel), List.mem_of_getElem? (i := 101) (by decide +kernel), pd_117, by decide +kernel, by decide +kernel, by decide +kernel⟩
theorem pk_117 : pg_okV 117 := ⟨List.mem_of_getElem? (i := 514) (by decide +kernel), List.mem_of_getElem? (i := 515) (by decide +kernel)⟩
theorem pm_118 : pg_okM 118 := ⟨List.mem_of_getElem? (i := 546) (by decide +kernel), List.mem_of_getElem? (i := 101) (by decide +kernel), pd_118, by decide +kernel, by decide +kernel, by decide +kernel⟩
theorem pk_118 : pg_okV 118 := ⟨List.mem_of_getElem? (i := 545) (by decide +kernel), List.mem_of_getElem? (i := 2) (by decide +kernel)⟩
theorem pm_119 : pg_okM 119 := ⟨List.mem_of_getElem? (i := 614) (by decide +kernel), List.mem_of_getElem? (i := 101) (by decide +kernel), pd_119, by decide +kernel, by decide +kernel, by decide +kernel⟩
theorem pk_119 : pg_okV 119 := ⟨List.mem_of_getElem? (i := 613) (by decide +kernel), List.mem_of_getElem? (i := 6) (by decide +kernel)⟩
theorem pm_120 : pg_okM 120 := ⟨List.mem_of_getElem? (i := 610) (by decide +kernel), List.mem_of_getElem? (i := 101) (by decide +kernel), pd_120, by decide +kernel, by decide +kernel, by decide +kernel⟩
theorem pk_120 : pg_okV 120 := ⟨List.mem_of_getElem? (i := 609) (by decide +kernel), List.mem_of_getElem? (i := 5) (by decide +kernel)⟩
theorem pm_121 : pg_okM 121 := ⟨List.mem_of_getElem? (i := 618) (by decide +kernel), List.mem_of_getElem? (i := 101) (by decide +kernel), pd_121, by decide +kernel, by decide +kernel, by decide +kernel⟩
theorem pk_121 : pg_okV 121 := ⟨List.mem_of_getElem? (i := 617) (by decide +kernel), List.mem_of_getElem? (i := 7) (by decide +kernel)⟩
theorem pm_122 : pg_okM 122 := ⟨List.mem_of_getElem? (i := 630) (by decide +kernel), List.mem_of_getElem? (i := 101) (by decide +kernel), pd_122, by decide +kernel, by decide +kernel, by decide +kernel⟩
theorem pk_122 : pg_okV 122 := ⟨List.mem_of_getElem? (i := 629) (by decide +kernel), List.mem_of_getElem? (i := 8) (by decide +kernel)⟩
theorem pm_123 : pg_okM 123 := ⟨List.mem_of_getElem? (i := 651) (by decide +kernel), List.mem_of_getElem? (i := 101) (by decide +kernel), pd_123, by decide +kernel, by decide +kernel, by decide +kernel⟩
theorem pk_123 : pg_okV 123 := ⟨List.mem_of_getElem? (i := 650) (by decide +kernel), List.mem_of_getElem? (i := 10) (by decide +kernel)⟩
theorem pm_124 : pg_okM 124 := ⟨List.mem_of_getElem? (i := 532) (by decide +kernel), List.mem_of_getElem? (i := 101) (by decide +kernel), pd_124, by decide +kernel, by decide +kernel, by decide +kernel⟩
theorem pk_124 : pg_okV 124 := ⟨List.mem_of_getElem? (i := 531) (by decide +kernel), List.mem_of_getElem? (i := 0) (by decide +kernel)⟩
theorem pm_125 : pg_okM 125 := ⟨List.mem_of_getElem? (i := 539) (by decide +kernel), List.mem_of_getElem? (i := 101) (by decide +kernel), pd_125, by decide +kernel, by decide +kernel, by decide +kernel⟩
theorem pk_125 : pg_okV 125 := ⟨List.mem_of_getElem? (i := 538) (by decide +kernel), List.mem_of_getElem? (i := 1) (by decide +kernel)⟩
theorem pm_126 : pg_okM 126 := ⟨List.mem_of_getElem? (i := 535) (by decide +kernel), List.mem_of_getElem? (i := 101) (by decide +kernel), pd_126, by decide +kernel, by decide +kernel, by decide +kernel⟩
theorem pk_126 : pg_okS 126 := List.mem_of_getElem? (i := 534) (by decide +kernel)
theorem pm_127 : pg_okM 127 := ⟨List.mem_of_getElem? (i := 542) (by decide +kernel), List.mem_of_getElem? (i := 101) (by decide +kernel), pd_127, by decide +kernel, by decide +kernel, by decide +kernel⟩
theorem pk_127 : pg_okS 127 := List.mem_of_getElem? (i := 541) (by decide +kernel)
theorem pm_128 : pg_okM 128 := ⟨List.mem_of_getElem? (i := 552) (by decide +kernel), List.mem_of_getElem? (i := 101) (by decide +kernel), pd_128, by decide +kernel, by decide +kernel, by decide +kernel⟩
theorem pk_128 : pg_okV 128 := ⟨List.mem_of_getElem? (i := 551) (by decide +kernel), List.mem_of_getElem? (i := 3) (by decide +kernel)⟩
theorem pm_129 : pg_okM 129 := ⟨List.mem_of_getElem? (i := 604) (by decide +kernel), List.mem_of_getElem? (i := 101) (by decide +kernel), pd_129, by decide +kernel, by decide +kernel, by decide +kernel⟩
theorem pk_129 : pg_okV 129 := ⟨List.mem_of_getElem? (i := 603) (by decide +kernel), List.mem_of_getElem? (i := 4) (by decide +kernel)⟩
theorem pm_130 : pg_okM 130 := ⟨List.mem_of_getElem? (i := 368) (by decide +kernel), List.mem_of_getElem? (i := 102) (by decide +kernel), pd_130, by decide +kernel, by decide +kernel, by decide +kernel⟩
theorem pk_130 : pg_okI 130 := ⟨List.mem_of_getElem? (i := 367) (by decide +kernel), by decide +kernel, by decide +kernel⟩
theorem pm_131 : pg_okM 131 := ⟨List.mem_of_getElem? (i := 843) (by decide +kernel), List.mem_of_getElem? (i := 102) (by decide +kernel), pd_131, by decide +kernel, by decide +kernel, by decide +kernel⟩
theorem pk_131 : pg_okV 131 := ⟨List.mem_of_getElem? (i := 841) (by decide +kernel), List.mem_of_getElem? (i := 842) (by decide +kernel)⟩
theorem pm_132 : pg_okM 132 := ⟨List.mem_of_getElem? (i := 855) (by decide +kernel), List.mem_of_getElem? (i := 102) (by decide +kernel), pd_132, by decide +kernel, by decide +kernel, by decide +kernel⟩
theorem pk_132 : pg_okV 132 := ⟨List.mem_of_getElem? (i := 853) (by decide +kernel), List.mem_of_getElem? (i := 854) (by decide +kernel)⟩
theorem pm_133 : pg_okM 133 := ⟨List.mem_of_getElem? (i := 872) (by decide +kernel), List.mem_of_getElem? (i := 102) (by decide +kernel), pd_133, by decide +kernel, by decide +kernel, by decide +kernel⟩
theorem pk_133 : pg_okV 133 := ⟨List.mem_of_getElem? (i := 870) (by decide +kernel), List.mem_of_getElem? (i := 871) (by decide +kernel)⟩
theorem pm_134 : pg_okM 134 := ⟨List.mem_of_getElem? (i := 847) (by decide +kernel), List.mem_of_getElem? (i := 102) (by decide +kernel), pd_134, by decide +kernel, by decide +kernel, by decide +kernel⟩
theorem pk_134 : pg_okV 134 := ⟨List.mem_of_getElem? (i := 846) (by decide +kernel), List.mem_of_getElem? (i := 15) (by decide +kernel)⟩
theorem pm_135 : pg_okM 135 := ⟨List.mem_of_getElem? (i := 859) (by decide +kernel), List.mem_of_getElem? (i := 102) (by decide +kernel), pd_135, by decide +kernel, by decide +kernel, by decide +kernel⟩
theorem pk_135 : pg_okV 135 := ⟨List.mem_of_getElem? (i := 858) (by decide +kernel), List.mem_of_getElem? (i := 16) (by decide +kernel)⟩
theorem pm_136 : pg_okM 136 := ⟨List.mem_of_getElem? (i := 863) (by decide +kernel), List.mem_of_getElem? (i := 102) (by decide +kernel), pd_136, by decide +kernel, by decide +kernel, by decide +kernel⟩
theorem pk_136 : pg_okV 136 := ⟨List.mem_of_getElem? (i := 862) (by decide +kernel), List.mem_of_getElem? (i := 17) (by decide +kernel)⟩
theorem pm_137 : pg_okM 137 := ⟨List.mem_of_getElem? (i := 868) (by decide +kernel), List.mem_of_getElem? (i := 102) (by decide +kernel), pd_137, by decide +kernel, by decide +kernel, by decide +kernel⟩
theorem pk_137 : pg_okV 137 := ⟨List.mem_of_getElem? (i := 867) (by decide +kernel), List.mem_of_getElem? (i := 18) (by decide +kernel)⟩
theorem pm_138 : pg_okM 138 := ⟨List.mem_of_getElem? (i := 407) (by decide +kernel), List.mem_of_getElem? (i := 103) (by decide +kernel), pd_138, by decide +kernel, by decide +kernel, by decide +kernel⟩
theorem pk_138 : pg_okI 138 := ⟨List.mem_of_getElem? (i := 406) (by decide +kernel), by decide +kernel, by decide +kernel⟩
theorem pm_139 : pg_okM 139 := ⟨List.mem_of_getElem? (i := 880) (by decide +kernel), List.mem_of_getElem? (i := 103) (by decide +kernel), pd_139, by decide +kernel, by decide +kernel, by decide +kernel⟩
theorem pk_139 : pg_okV 139 := ⟨List.mem_of_getElem? (i := 878) (by decide +kernel), List.mem_of_getElem? (i := 879) (by decide +kernel)⟩
theorem pm_140 : pg_okM 140 := ⟨List.mem_of_getElem? (i := 909) (by decide +kernel), List.mem_of_getElem? (i := 103) (by decide +kernel), pd_140, by decide +kernel, by decide +kernel, by decide +kernel⟩
theorem pk_140 : pg_okV 140 := ⟨List.mem_of_getElem? (i := 907) (by decide +kernel), List.mem_of_getElem? (i := 908) (by decide +kernel)⟩
theorem pm_141 : pg_okM 141 := ⟨List.mem_of_getElem? (i := 913) (by decide +kernel), List.mem_of_getElem? (i := 103) (by decide +kernel), pd_141, by decide +kernel, by decide +kernel, by decide +kernel⟩
theorem pk_141 : pg_okV 141 := ⟨List.mem_of_getElem? (i := 911) (by decide +kernel), List.mem_of_getElem? (i := 912) (by decide +kernel)⟩
theorem pm_142 : pg_okM 142 := ⟨List.mem_of_getElem? (i := 975) (by decide +kernel), List.mem_of_getElem? (i := 103) (by decide +kernel), pd_142, by decide +kernel, by decide +kernel, by decide +kernel⟩
theorem pk_142 : pg_okV 142 := ⟨List.mem_of_getElem? (i := 973) (by decide +kernel), List.mem_of_getElem? (i := 974) (by decide +kernel)⟩
theorem pm_143 : pg_okM 143 := ⟨List.mem_of_getElem? (i := 885) (by decide +kernel), List.mem_of_getElem? (i := 103) (by decide +kernel), pd_143, by decide +kernel, by decide +kernel, by decide +kernel⟩
theorem pk_143 : pg_okV 143 := ⟨List.mem_of_getElem? (i := 884) (by decide +kernel), List.mem_of_getElem? (i := 19) (by decide +kernel)⟩
theorem pm_144 : pg_okM 144 := ⟨List.mem_of_getElem? (i := 904) (by decide +kernel), List.mem_of_getElem? (i := 103) (by decide +kernel), pd_144, by decide +kernel, by decide +kernel, by decide +kernel⟩
theorem pk_144 : pg_okV 144 := ⟨List.mem_of_getElem? (i := 903) (by decide +kernel), List.mem_of_getElem? (i := 21) (by decide +kernel)⟩
theorem pm_145 : pg_okM 145 := ⟨List.mem_of_getElem? (i := 889) (by decide +kernel), List.mem_of_getElem? (i := 103) (by decide +kernel), pd_145, by decide +kernel, by decide +kernel, by decide +kernel⟩
theorem pk_145 : pg_okV 145 := ⟨List.mem_of_getElem? (i := 888) (by decide +kernel), List.mem_of_getElem? (i := 20) (by decide +kernel)⟩
theorem pm_146 : pg_okM 146 := ⟨List.mem_of_getElem? (i := 983) (by decide +kernel), List.mem_of_getElem? (i := 103) (by decide +kernel), pd_146, by decide +kernel, by decide +kernel, by decide +kernel⟩
theorem pk_146 : pg_okV 146 := ⟨List.mem_of_getElem? (i := 982) (by decide +kernel), List.mem_of_getElem? (i := 26) (by decide +kernel)⟩
theorem pm_147 : pg_okM 147 := ⟨List.mem_of_getElem? (i := 892) (by decide +kernel), List.mem_of_getElem? (i := 103) (by decide +kernel), pd_147, by decide +kernel, by decide +kernel, by decide +kernel⟩
theorem pk_147 : pg_okS 147 := List.mem_of_getElem? (i := 891) (by decide +kernel)
theorem pm_148 : pg_okM 148 := ⟨List.mem_of_getElem? (i := 979) (by decide +kernel), List.mem_of_getElem? (i := 103) (by decide +kernel), pd_148, by decide +kernel, by decide +kernel, by decide +kernel⟩
theorem pk_148 : pg_okV 148 := ⟨List.mem_of_getElem? (i := 978) (by decide +kernel), List.mem_of_getElem? (i := 25) (by decide +kernel)⟩
theorem pm_149 : pg_okM 149 := ⟨List.mem_of_getElem? (i := 426) (by decide +kernel), List.mem_of_getElem? (i := 104) (by decide +kernel), pd_149, by decide +kernel, by decide +kernel, by decide +kernel⟩
theorem pk_149 : pg_okI 149 := ⟨List.mem_of_getElem? (i := 425) (by decide +kernel), by decide +kernel, by decide +kernel⟩
theorem pm_150 : pg_okM 150 := ⟨List.mem_of_getElem? (i := 1027) (by decide +kernel), List.mem_of_getElem? (i := 104) (by decide +kernel), pd_150, by decide +kernel, by decide +kernel, by decide +kernel⟩
theorem pk_150 : pg_okV 150 := ⟨List.mem_of_getElem? (i := 1025) (by decide +kernel), List.mem_of_getElem? (i := 1026) (by decide +kernel)⟩
theorem pm_151 : pg_okM 151 := ⟨List.mem_of_getElem? (i := 1051) (by decide +kernel), List.mem_of_getElem? (i := 104) (by decide +kernel), pd_151, by decide +kernel, by decide +kernel, by decide +kernel⟩
theorem pk_151 : pg_okV 151 := ⟨List.mem_of_getElem? (i := 1049) (by decide +kernel), List.mem_of_getElem? (i := 1050) (by decide +kernel)⟩
theorem pm_152 : pg_okM 152 := ⟨List.mem_of_getElem? (i := 1031) (by decide +kernel), List.mem_of_getElem? (i := 104) (by decide +kernel), pd_152, by decide +kernel, by decide +kernel, by decide +kernel⟩
theorem pk_152 : pg_okV 152 := ⟨List.mem_of_getElem? (i := 1030) (by decide +kernel), List.mem_of_getElem? (i := 28) (by decide +kernel)⟩
theorem pm_153 : pg_okM 153 := ⟨List.mem_of_getElem? (i := 1038) (by decide +kernel), List.mem_of_getElem? (i := 104) (by decide +kernel), pd_153, by decide +kernel, by decide +kernel, by decide +kernel⟩
theorem pk_153 : pg_okV 153 := ⟨List.mem_of_getElem? (i := 1037) (by decide +kernel), List.mem_of_getElem? (i := 29) (by decide +kernel)⟩
theorem pm_154 : pg_okM 154 := ⟨List.mem_of_getElem? (i := 1047) (by decide +kernel), List.mem_of_getElem? (i := 104) (by decide +kernel), pd_154, by decide +kernel, by decide +kernel, by decide +kernel⟩
theorem pk_154 : pg_okV 154 := ⟨List.mem_of_getElem? (i := 1046) (by decide +kernel), List.mem_of_getElem? (i := 30) (by decide +kernel)⟩
theorem pm_155 : pg_okM 155 := ⟨List.mem_of_getElem? (i := 448) (by decide +kernel), List.mem_of_getElem? (i := 105) (by decide +kernel), pd_155, by decide +kernel, by decide +kernel, by decide +kernel⟩
theorem pk_155 : pg_okI 155 := ⟨List.mem_of_getElem? (i := 447) (by decide +kernel), by decide +kernel, by decide +kernel⟩
theorem pm_156 : pg_okM 156 := ⟨List.mem_of_getElem? (i := 1059) (by decide +kernel), List.mem_of_getElem? (i := 105) (by decide +kernel), pd_156, by decide +kernel, by decide +kernel, by decide +kernel⟩
theorem pk_156 : pg_okV 156 := ⟨List.mem_of_getElem? (i := 1057) (by decide +kernel), List.mem_of_getElem? (i := 1058) (by decide +kernel)⟩
theorem pm_157 : pg_okM 157 := ⟨List.mem_of_getElem? (i := 1081) (by decide +kernel), List.mem_of_getElem? (i := 105) (by decide +kernel), pd_157, by decide +kernel, by decide +kernel, by decide +kernel⟩
theorem pk_157 : pg_okV 157 := ⟨List.mem_of_getElem? (i := 1079) (by decide +kernel), List.mem_of_getElem? (i := 1080) (by decide +kernel)⟩
theorem pm_158 : pg_okM 158 := ⟨List.mem_of_getElem? (i := 1077) (by decide +kernel), List.mem_of_getElem? (i := 105) (by decide +kernel), pd_158, by decide +kernel, by decide +kernel, by decide +kernel⟩
theorem pk_158 : pg_okV 158 := ⟨List.mem_of_getElem? (i := 1075) (by decide +kernel), List.mem_of_getElem? (i := 1076) (by decide +kernel)⟩
theorem pm_159 : pg_okM 159 := ⟨List.mem_of_getElem? (i := 1090) (by decide +kernel), List.mem_of_getElem? (i := 105) (by decide +kernel), pd_159, by decide +kernel, by decide +kernel, by decide +kernel⟩
theorem pk_159 : pg_okV 159 := ⟨List.mem_of_getElem? (i := 1088) (by decide +kernel), List.mem_of_getElem? (i := 1089) (by decide +kernel)⟩
theorem pm_160 : pg_okM 160 := ⟨List.mem_of_getElem? (i := 1063) (by decide +kernel), List.mem_of_getElem? (i := 105) (by decide +kernel), pd_160, by decide +kernel, by decide +kernel, by decide +kernel⟩
theorem pk_160 : pg_okV 160 := ⟨List.mem_of_getElem? (i := 1062) (by decide +kernel), List.mem_of_getElem? (i := 31) (by decide +kernel)⟩
theorem pm_161 : pg_okM 161 := ⟨List.mem_of_getElem? (i := 1067) (by decide +kernel), List.mem_of_getElem? (i := 105) (by decide +kernel), pd_161, by decide +kernel, by decide +kernel, by decide +kernel⟩
theorem pk_161 : pg_okV 161 := ⟨List.mem_of_getElem? (i := 1066) (by decide +kernel), List.mem_of_getElem? (i := 32) (by decide +kernel)⟩
theorem pm_162 : pg_okM 162 := ⟨List.mem_of_getElem? (i := 1217) (by decide +kernel), List.mem_of_getElem? (i := 106) (by decide +kernel), pd_162, by decide +kernel, by decide +kernel, by decide +kernel⟩
theorem pk_162 : pg_okI 162 := ⟨List.mem_of_getElem? (i := 1216) (by decide +kernel), by decide +kernel, by decide +kernel⟩
theorem pm_163 : pg_okM 163 := ⟨List.mem_of_getElem? (i := 1325) (by decide +kernel), List.mem_of_getElem? (i := 106) (by decide +kernel), pd_163, by decide +kernel, by decide +kernel, by decide +kernel⟩
theorem pk_163 : pg_okS 163 := List.mem_of_getElem? (i := 1324) (by decide +kernel)
theorem pm_164 : pg_okM 164 := ⟨List.mem_of_getElem? (i := 1314) (by decide +kernel), List.mem_of_getElem? (i := 106) (by decide +kernel), pd_164, by decide +kernel, by decide +kernel, by decide +kernel⟩
theorem pk_164 : pg_okV 164 := ⟨List.mem_of_getElem? (i := 1312) (by decide +kernel), List.mem_of_getElem? (i := 1313) (by decide +kernel)⟩
theorem pm_165 : pg_okM 165 := ⟨List.mem_of_getElem? (i := 1318) (by decide +kernel), List.mem_of_getElem? (i := 106) (by decide +kernel), pd_165, by decide +kernel, by decide +kernel, by decide +kernel⟩
theorem pk_165 : pg_okV 165 := ⟨List.mem_of_getElem? (i := 1316) (by decide +kernel), List.mem_of_getElem? (i := 1317) (by decide +kernel)⟩
theorem pm_166 : pg_okM 166 := ⟨List.mem_of_getElem? (i := 1345) (by decide +kernel), List.mem_of_getElem? (i := 106) (by decide +kernel), pd_166, by decide +kernel, by decide +kernel, by decide +kernel⟩
theorem pk_166 : pg_okV 166 := ⟨List.mem_of_getElem? (i := 1344) (by decide +kernel), List.mem_of_getElem? (i := 39) (by decide +kernel)⟩
theorem pm_167 : pg_okM 167 := ⟨List.mem_of_getElem? (i := 1348) (by decide +kernel), List.mem_of_getElem? (i := 106) (by decide +kernel), pd_167, by decide +kernel, by decide +kernel, by decide +kernel⟩
theorem pk_167 : pg_okS 167 := List.mem_of_getElem? (i := 1347) (by decide +kernel)
theorem pm_168 : pg_okM 168 := ⟨List.mem_of_getElem? (i := 1366) (by decide +kernel), List.mem_of_getElem? (i := 106) (by decide +kernel), pd_168, by decide +kernel, by decide +kernel, by decide +kernel⟩
theorem pk_168 : pg_okS 168 := List.mem_of_getElem? (i := 1365) (by decide +kernel)
theorem pm_169 : pg_okM 169 := ⟨List.mem_of_getElem? (i := 1356) (by decide +kernel), List.mem_of_getElem? (i := 106) (by decide +kernel), pd_169, by decide +kernel, by decide +kernel, by decide +kernel⟩
theorem pk_169 : pg_okS 169 := List.mem_of_getElem? (i := 1355) (by decide +kernel)
theorem pm_170 : pg_okM 170 := ⟨List.mem_of_getElem? (i := 1353) (by decide +kernel), List.mem_of_getElem? (i := 106) (by decide +kernel), pd_170, by decide +kernel, by decide +kernel, by decide +kernel⟩
theorem pk_170 : pg_okS 170 := List.mem_of_getElem? (i := 1352) (by decide +kernel)
theorem pm_171 : pg_okM 171 := ⟨List.mem_of_getElem? (i := 1341) (by decide +kernel), List.mem_of_getElem? (i := 106) (by decide +kernel), pd_171, by decide +kernel, by decide +kernel, by decide +kernel⟩
theorem pk_171 : pg_okV 171 := ⟨List.mem_of_getElem? (i := 1340) (by decide +kernel), List.mem_of_getElem? (i := 38) (by decide +kernel)⟩
theorem pm_172 : pg_okM 172 := ⟨List.mem_of_getElem? (i := 1378) (by decide +kernel), List.mem_of_getElem? (i := 106) (by decide +kernel), pd_172, by decide +kernel, by decide +kernel, by decide +kernel⟩
theorem pk_172 : pg_okV 172 := ⟨List.mem_of_getElem? (i := 1377) (by decide +kernel), List.mem_of_getElem? (i := 42) (by decide +kernel)⟩
theorem pm_173 : pg_okM 173 := ⟨List.mem_of_getElem? (i := 1386) (by decide +kernel), List.mem_of_getElem? (i := 106) (by decide +kernel), pd_173, by decide +kernel, by decide +kernel, by decide +kernel⟩
theorem pk_173 : pg_okV 173 := ⟨List.mem_of_getElem? (i := 1385) (by decide +kernel), List.mem_of_getElem? (i := 44) (by decide +kernel)⟩
theorem pm_174 : pg_okM 174 := ⟨List.mem_of_getElem? (i := 1390) (by decide +kernel), List.mem_of_getElem? (i := 106) (by decide +kernel), pd_174, by decide +kernel, by decide +kernel, by decide +kernel⟩
theorem pk_174 : pg_okV 174 := ⟨List.mem_of_getElem? (i := 1389) (by decide +kernel), List.mem_of_getElem? (i := 45) (by decide +kernel)⟩
theorem pm_175 : pg_okM 175 := ⟨List.mem_of_getElem? (i := 1374) (by decide +kernel), List.mem_of_getElem? (i := 106) (by decide +kernel), pd_175, by decide +kernel, by decide +kernel, by decide +kernel⟩
theorem pk_175 : pg_okV 175 := ⟨List.mem_of_getElem? (i := 1373) (by decide +kernel), List.mem_of_getElem? (i := 41) (by decide +kernel)⟩
theorem pm_176 : pg_okM 176 := ⟨List.mem_of_getElem? (i := 1410) (by decide +kernel), List.mem_of_getElem? (i := 106) (by decide +kernel), pd_176, by decide +kernel, by decide +kernel, by decide +kernel⟩
theorem pk_176 : pg_okV 176 := ⟨List.mem_of_getElem? (i := 1409) (by decide +kernel), List.mem_of_getElem? (i := 50) (by decide +kernel)⟩
theorem pm_177 : pg_okM 177 := ⟨List.mem_of_getElem? (i := 1382) (by decide +kernel), List.mem_of_getElem? (i := 106) (by decide +kernel), pd_177, by decide +kernel, by decide +kernel, by decide +kernel⟩
theorem pk_177 : pg_okV 177 := ⟨List.mem_of_getElem? (i := 1381) (by decide +kernel), List.mem_of_getElem? (i := 43) (by decide +kernel)⟩
theorem pm_178 : pg_okM 178 := ⟨List.mem_of_getElem? (i := 1398) (by decide +kernel), List.mem_of_getElem? (i := 106) (by decide +kernel), pd_178, by decide +kernel, by decide +kernel, by decide +kernel⟩
theorem pk_178 : pg_okV 178 := ⟨List.mem_of_getElem? (i := 1397) (by decide +kernel), List.mem_of_getElem? (i := 47) (by decide +kernel)⟩
theorem pm_179 : pg_okM 179 := ⟨List.mem_of_getElem? (i := 1394) (by decide +kernel), List.mem_of_getElem? (i := 106) (by decide +kernel), pd_179, by decide +kernel, by decide +kernel, by decide +kernel⟩
theorem pk_179 : pg_okV 179 := ⟨List.mem_of_getElem? (i := 1393) (by decide +kernel), List.mem_of_getElem? (i := 46) (by decide +kernel)⟩
theorem pm_180 : pg_okM 180 := ⟨List.mem_of_getElem? (i := 1402) (by decide +kernel), List.mem_of_getElem? (i := 106) (by decide +kernel), pd_180, by decide +kernel, by decide +kernel, by decide +kernel⟩
theorem pk_180 : pg_okV 180 := ⟨List.mem_of_getElem? (i := 1401) (by decide +kernel), List.mem_of_getElem? (i := 48) (by decide +kernel)⟩
theorem pm_181 : pg_okM 181 := ⟨List.mem_of_getElem? (i := 1406) (by decide +kernel), List.mem_of_getElem? (i := 106) (by decide +kernel), pd_181, by decide +kernel, by decide +kernel, by decide +kernel⟩
theorem pk_181 : pg_okV 181 := ⟨List.mem_of_getElem? (i := 1405) (by decide +kernel), List.mem_of_getElem? (i := 49) (by decide +kernel)⟩
theorem pm_182 : pg_okM 182 := ⟨List.mem_of_getElem? (i := 1370) (by decide +kernel), List.mem_of_getElem? (i := 106) (by decide +kernel), pd_182, by decide +kernel, by decide +kernel, by decide +kernel⟩
theorem pk_182 : pg_okV 182 := ⟨List.mem_of_getElem? (i := 1369) (by decide +kernel), List.mem_of_getElem? (i := 40) (by decide +kernel)⟩
theorem pm_183 : pg_okM 183 := ⟨List.mem_of_getElem? (i := 1418) (by decide +kernel), List.mem_of_getElem? (i := 106) (by decide +kernel), pd_183, by decide +kernel, by decide +kernel, by decide +kernel⟩
theorem pk_183 : pg_okV 183 := ⟨List.mem_of_getElem? (i := 1417) (by decide +kernel), List.mem_of_getElem? (i := 52) (by decide +kernel)⟩
theorem pm_184 : pg_okM 184 := ⟨List.mem_of_getElem? (i := 1414) (by decide +kernel), List.mem_of_getElem? (i := 106) (by decide +kernel), pd_184, by decide +kernel, by decide +kernel, by decide +kernel⟩
theorem pk_184 : pg_okV 184 := ⟨List.mem_of_getElem? (i := 1413) (by decide +kernel), List.mem_of_getElem? (i := 51) (by decide +kernel)⟩
theorem pm_185 : pg_okM 185 := ⟨List.mem_of_getElem? (i := 1428) (by decide +kernel), List.mem_of_getElem? (i := 106) (by decide +kernel), pd_185, by decide +kernel, by decide +kernel, by decide +kernel⟩
theorem pk_185 : pg_okS 185 := List.mem_of_getElem? (i := 1427) (by decide +kernel)
theorem pm_186 : pg_okM 186 := ⟨List.mem_of_getElem? (i := 1425) (by decide +kernel), List.mem_of_getElem? (i := 106) (by decide +kernel), pd_186, by decide +kernel, by decide +kernel, by decide +kernel⟩
theorem pk_186 : pg_okS 186 := List.mem_of_getElem? (i := 1424) (by decide +kernel)
theorem pm_187 : pg_okM 187 := ⟨List.mem_of_getElem? (i := 1333) (by decide +kernel), List.mem_of_getElem? (i := 106) (by decide +kernel), pd_187, by decide +kernel, by decide +kernel, by decide +kernel⟩
theorem pk_187 : pg_okV 187 := ⟨List.mem_of_getElem? (i := 1332) (by decide +kernel), List.mem_of_getElem? (i := 36) (by decide +kernel)⟩
theorem pm_188 : pg_okM 188 := ⟨List.mem_of_getElem? (i := 1329) (by decide +kernel), List.mem_of_getElem? (i := 106) (by decide +kernel), pd_188, by decide +kernel, by decide +kernel, by decide +kernel⟩
theorem pk_188 : pg_okV 188 := ⟨List.mem_of_getElem? (i := 1328) (by decide +kernel), List.mem_of_getElem? (i := 35) (by decide +kernel)⟩
theorem pm_189 : pg_okM 189 := ⟨List.mem_of_getElem? (i := 1422) (by decide +kernel), List.mem_of_getElem? (i := 106) (by decide +kernel), pd_189, by decide +kernel, by decide +kernel, by decide +kernel⟩
theorem pk_189 : pg_okV 189 := ⟨List.mem_of_getElem? (i := 1421) (by decide +kernel), List.mem_of_getElem? (i := 53) (by decide +kernel)⟩
theorem pm_190 : pg_okM 190 := ⟨List.mem_of_getElem? (i := 1337) (by decide +kernel), List.mem_of_getElem? (i := 106) (by decide +kernel), pd_190, by decide +kernel, by decide +kernel, by decide +kernel⟩
theorem pk_190 : pg_okV 190 := ⟨List.mem_of_getElem? (i := 1336) (by decide +kernel), List.mem_of_getElem? (i := 37) (by decide +kernel)⟩
theorem pm_191 : pg_okM 191 := ⟨List.mem_of_getElem? (i := 1322) (by decide +kernel), List.mem_of_getElem? (i := 106) (by decide +kernel), pd_191, by decide +kernel, by decide +kernel, by decide +kernel⟩
theorem pk_191 : pg_okV 191 := ⟨List.mem_of_getElem? (i := 1320) (by decide +kernel), List.mem_of_getElem? (i := 1321) (by decide +kernel)⟩
theorem pm_192 : pg_okM 192 := ⟨List.mem_of_getElem? (i := 1432) (by decide +kernel), List.mem_of_getElem? (i := 106) (by decide +kernel), pd_192, by decide +kernel, by decide +kernel, by decide +kernel⟩
theorem pk_192 : pg_okV 192 := ⟨List.mem_of_getElem? (i := 1430) (by decide +kernel), List.mem_of_getElem? (i := 1431) (by decide +kernel)⟩
theorem pm_193 : pg_okM 193 := ⟨List.mem_of_getElem? (i := 1436) (by decide +kernel), List.mem_of_getElem? (i := 106) (by decide +kernel), pd_193, by decide +kernel, by decide +kernel, by decide +kernel⟩
theorem pk_193 : pg_okV 193 := ⟨List.mem_of_getElem? (i := 1434) (by decide +kernel), List.mem_of_getElem? (i := 1435) (by decide +kernel)⟩
theorem pm_194 : pg_okM 194 := ⟨List.mem_of_getElem? (i := 1440) (by decide +kernel), List.mem_of_getElem? (i := 106) (by decide +kernel), pd_194, by decide +kernel, by decide +kernel, by decide +kernel⟩
theorem pk_194 : pg_okV 194 := ⟨List.mem_of_getElem? (i := 1438) (by decide +kernel), List.mem_of_getElem? (i := 1439) (by decide +kernel)⟩
theorem pm_195 : pg_okM 195 := ⟨List.mem_of_getElem? (i := 1452) (by decide +kernel), List.mem_of_getElem? (i := 106) (by decide +kernel), pd_195, by decide +kernel, by decide +kernel, by decide +kernel⟩
theorem pk_195 : pg_okV 195 := ⟨List.mem_of_getElem? (i := 1451) (by decide +kernel), List.mem_of_getElem? (i := 55) (by decide +kernel)⟩
theorem pm_196 : pg_okM 196 := ⟨List.mem_of_getElem? (i := 1448) (by decide +kernel), List.mem_of_getElem? (i := 106) (by decide +kernel), pd_196, by decide +kernel, by decide +kernel, by decide +kernel⟩
theorem pk_196 : pg_okV 196 := ⟨List.mem_of_getElem? (i := 1447) (by decide +kernel), List.mem_of_getElem? (i := 54) (by decide +kernel)⟩
theorem pm_197 : pg_okM 197 := ⟨List.mem_of_getElem? (i := 1444) (by decide +kernel), List.mem_of_getElem? (i := 106) (by decide +kernel), pd_197, by decide +kernel, by decide +kernel, by decide +kernel⟩
theorem pk_197 : pg_okV 197 := ⟨List.mem_of_getElem? (i := 1442) (by decide +kernel), List.mem_of_getElem? (i := 1443) (by decide +kernel)⟩
theorem pm_198 : pg_okM 198 := ⟨List.mem_of_getElem? (i := 1456) (by decide +kernel), List.mem_of_getElem? (i := 106) (by decide +kernel), pd_198, by decide +kernel, by decide +kernel, by decide +kernel⟩
theorem pk_198 : pg_okV 198 := ⟨List.mem_of_getElem? (i := 1454) (by decide +kernel), List.mem_of_getElem? (i := 1455) (by decide +kernel)⟩
theorem pm_199 : pg_okM 199 := ⟨List.mem_of_getElem? (i := 1460) (by decide +kernel), List.mem_of_getElem? (i := 106) (by decide +kernel), pd_199, by decide +kernel, by decide +kernel, by decide +kernel⟩
theorem pk_199 : pg_okV 199 := ⟨List.mem_of_getElem? (i := 1458) (by decide +kernel), List.mem_of_getElem? (i := 1459) (by decide +kernel)⟩
theorem pm_200 : pg_okM 200 := ⟨List.mem_of_getElem? (i := 1500) (by decide +kernel), List.mem_of_getElem? (i := 106) (by decide +kernel), pd_200, by decide +kernel, by decide +kernel, by decide +kernel⟩
theorem pk_200 : pg_okS 200 := List.mem_of_getElem? (i := 1499) (by decide +kernel)
theorem pm_201 : pg_okM 201 := ⟨List.mem_of_getElem? (i := 1497) (by decide +kernel), List.mem_of_getElem? (i := 106) (by decide +kernel), pd_201, by decide +kernel, by decide +kernel, by decide +kernel⟩
theorem pk_201 : pg_okV 201 := ⟨List.mem_of_getElem? (i := 1496) (by decide +kernel), List.mem_of_getElem? (i := 63) (by decide +kernel)⟩
theorem pm_202 : pg_okM 202 := ⟨List.mem_of_getElem? (i := 1493) (by decide +kernel), List.mem_of_getElem? (i := 106) (by decide +kernel), pd_202, by decide +kernel, by decide +kernel, by decide +kernel⟩
theorem pk_202 : pg_okV 202 := ⟨List.mem_of_getElem? (i := 1492) (by decide +kernel), List.mem_of_getElem? (i := 62) (by decide +kernel)⟩
theorem pm_203 : pg_okM 203 := ⟨List.mem_of_getElem? (i := 1489) (by decide +kernel), List.mem_of_getElem? (i := 106) (by decide +kernel), pd_203, by decide +kernel, by decide +kernel, by decide +kernel⟩
theorem pk_203 : pg_okV 203 := ⟨List.mem_of_getElem? (i := 1488) (by decide +kernel), List.mem_of_getElem? (i := 61) (by decide +kernel)⟩
theorem pm_204 : pg_okM 204 := ⟨List.mem_of_getElem? (i := 1485) (by decide +kernel), List.mem_of_getElem? (i := 106) (by decide +kernel), pd_204, by decide +kernel, by decide +kernel, by decide +kernel⟩
theorem pk_204 : pg_okV 204 := ⟨List.mem_of_getElem? (i := 1484) (by decide +kernel), List.mem_of_getElem? (i := 60) (by decide +kernel)⟩
theorem pm_205 : pg_okM 205 := ⟨List.mem_of_getElem? (i := 1519) (by decide +kernel), List.mem_of_getElem? (i := 106) (by decide +kernel), pd_205, by decide +kernel, by decide +kernel, by decide +kernel⟩
theorem pk_205 : pg_okS 205 := List.mem_of_getElem? (i := 1518) (by decide +kernel)
theorem pm_206 : pg_okM 206 := ⟨List.mem_of_getElem? (i := 1523) (by decide +kernel), List.mem_of_getElem? (i := 106) (by decide +kernel), pd_206, by decide +kernel, by decide +kernel, by decide +kernel⟩
theorem pk_206 : pg_okV 206 := ⟨List.mem_of_getElem? (i := 1522) (by decide +kernel), List.mem_of_getElem? (i := 67) (by decide +kernel)⟩
theorem pm_207 : pg_okM 207 := ⟨List.mem_of_getElem? (i := 1516) (by decide +kernel), List.mem_of_getElem? (i := 106) (by decide +kernel), pd_207, by decide +kernel, by decide +kernel, by decide +kernel⟩
theorem pk_207 : pg_okV 207 := ⟨List.mem_of_getElem? (i := 1515) (by decide +kernel), List.mem_of_getElem? (i := 66) (by decide +kernel)⟩
theorem pm_208 : pg_okM 208 := ⟨List.mem_of_getElem? (i := 1512) (by decide +kernel), List.mem_of_getElem? (i := 106) (by decide +kernel), pd_208, by decide +kernel, by decide +kernel, by decide +kernel⟩
theorem pk_208 : pg_okV 208 := ⟨List.mem_of_getElem? (i := 1511) (by decide +kernel), List.mem_of_getElem? (i := 65) (by decide +kernel)⟩
theorem pm_209 : pg_okM 209 := ⟨List.mem_of_getElem? (i := 1481) (by decide +kernel), List.mem_of_getElem? (i := 106) (by decide +kernel), pd_209, by decide +kernel, by decide +kernel, by decide +kernel⟩
theorem pk_209 : pg_okV 209 := ⟨List.mem_of_getElem? (i := 1480) (by decide +kernel), List.mem_of_getElem? (i := 59) (by decide +kernel)⟩
theorem pm_210 : pg_okM 210 := ⟨List.mem_of_getElem? (i := 1473) (by decide +kernel), List.mem_of_getElem? (i := 106) (by decide +kernel), pd_210, by decide +kernel, by decide +kernel, by decide +kernel⟩
theorem pk_210 : pg_okV 210 := ⟨List.mem_of_getElem? (i := 1472) (by decide +kernel), List.mem_of_getElem? (i := 57) (by decide +kernel)⟩
theorem pm_211 : pg_okM 211 := ⟨List.mem_of_getElem? (i := 1508) (by decide +kernel), List.mem_of_getElem? (i := 106) (by decide +kernel), pd_211, by decide +kernel, by decide +kernel, by decide +kernel⟩
theorem pk_211 : pg_okV 211 := ⟨List.mem_of_getElem? (i := 1507) (by decide +kernel), List.mem_of_getElem? (i := 64) (by decide +kernel)⟩
theorem pm_212 : pg_okM 212 := ⟨List.mem_of_getElem? (i := 1584) (by decide +kernel), List.mem_of_getElem? (i := 106) (by decide +kernel), pd_212, by decide +kernel, by decide +kernel, by decide +kernel⟩
theorem pk_212 : pg_okV 212 := ⟨List.mem_of_getElem? (i := 1583) (by decide +kernel), List.mem_of_getElem? (i := 77) (by decide +kernel)⟩
theorem pm_213 : pg_okM 213 := ⟨List.mem_of_getElem? (i := 1468) (by decide +kernel), List.mem_of_getElem? (i := 106) (by decide +kernel), pd_213, by decide +kernel, by decide +kernel, by decide +kernel⟩
theorem pk_213 : pg_okV 213 := ⟨List.mem_of_getElem? (i := 1467) (by decide +kernel), List.mem_of_getElem? (i := 56) (by decide +kernel)⟩
theorem pm_214 : pg_okM 214 := ⟨List.mem_of_getElem? (i := 1477) (by decide +kernel), List.mem_of_getElem? (i := 106) (by decide +kernel), pd_214, by decide +kernel, by decide +kernel, by decide +kernel⟩
theorem pk_214 : pg_okV 214 := ⟨List.mem_of_getElem? (i := 1476) (by decide +kernel), List.mem_of_getElem? (i := 58) (by decide +kernel)⟩
theorem pm_215 : pg_okM 215 := ⟨List.mem_of_getElem? (i := 1464) (by decide +kernel), List.mem_of_getElem? (i := 106) (by decide +kernel), pd_215, by decide +kernel, by decide +kernel, by decide +kernel⟩
theorem pk_215 : pg_okV 215 := ⟨List.mem_of_getElem? (i := 1462) (by decide +kernel), List.mem_of_getElem? (i := 1463) (by decide +kernel)⟩
theorem pm_216 : pg_okM 216 := ⟨List.mem_of_getElem? (i := 1504) (by decide +kernel), List.mem_of_getElem? (i := 106) (by decide +kernel), pd_216, by decide +kernel, by decide +kernel, by decide +kernel⟩
theorem pk_216 : pg_okV 216 := ⟨List.mem_of_getElem? (i := 1502) (by decide +kernel), List.mem_of_getElem? (i := 1503) (by decide +kernel)⟩
theorem pm_217 : pg_okM 217 := ⟨List.mem_of_getElem? (i := 1531) (by decide +kernel), List.mem_of_getElem? (i := 106) (by decide +kernel), pd_217, by decide +kernel, by decide +kernel, by decide +kernel⟩
theorem pk_217 : pg_okV 217 := ⟨List.mem_of_getElem? (i := 1530) (by decide +kernel), List.mem_of_getElem? (i := 68) (by decide +kernel)⟩
theorem pm_218 : pg_okM 218 := ⟨List.mem_of_getElem? (i := 1535) (by decide +kernel), List.mem_of_getElem? (i := 106) (by decide +kernel), pd_218, by decide +kernel, by decide +kernel, by decide +kernel⟩
theorem pk_218 : pg_okV 218 := ⟨List.mem_of_getElem? (i := 1534) (by decide +kernel), List.mem_of_getElem? (i := 69) (by decide +kernel)⟩
theorem pm_219 : pg_okM 219 := ⟨List.mem_of_getElem? (i := 1527) (by decide +kernel), List.mem_of_getElem? (i := 106) (by decide +kernel), pd_219, by decide +kernel, by decide +kernel, by decide +kernel⟩
theorem pk_219 : pg_okV 219 := ⟨List.mem_of_getElem? (i := 1525) (by decide +kernel), List.mem_of_getElem? (i := 1526) (by decide +kernel)⟩
theorem pm_220 : pg_okM 220 := ⟨List.mem_of_getElem? (i := 1543) (by decide +kernel), List.mem_of_getElem? (i := 106) (by decide +kernel), pd_220, by decide +kernel, by decide +kernel, by decide +kernel⟩
theorem pk_220 : pg_okV 220 := ⟨List.mem_of_getElem? (i := 1542) (by decide +kernel), List.mem_of_getElem? (i := 70) (by decide +kernel)⟩
theorem pm_221 : pg_okM 221 := ⟨List.mem_of_getElem? (i := 1539) (by decide +kernel), List.mem_of_getElem? (i := 106) (by decide +kernel), pd_221, by decide +kernel, by decide +kernel, by decide +kernel⟩
theorem pk_221 : pg_okV 221 := ⟨List.mem_of_getElem? (i := 1537) (by decide +kernel), List.mem_of_getElem? (i := 1538) (by decide +kernel)⟩
theorem pm_222 : pg_okM 222 := ⟨List.mem_of_getElem? (i := 1547) (by decide +kernel), List.mem_of_getElem? (i := 106) (by decide +kernel), pd_222, by decide +kernel, by decide +kernel, by decide +kernel⟩
theorem pk_222 : pg_okV 222 := ⟨List.mem_of_getElem? (i := 1545) (by decide +kernel), List.mem_of_getElem? (i := 1546) (by decide +kernel)⟩
theorem pm_223 : pg_okM 223 := ⟨List.mem_of_getElem? (i := 1556) (by decide +kernel), List.mem_of_getElem? (i := 106) (by decide +kernel), pd_223, by decide +kernel, by decide +kernel, by decide +kernel⟩
theorem pk_223 : pg_okV 223 := ⟨List.mem_of_getElem? (i := 1555) (by decide +kernel), List.mem_of_getElem? (i := 71) (by decide +kernel)⟩
theorem pm_224 : pg_okM 224 := ⟨List.mem_of_getElem? (i := 1568) (by decide +kernel), List.mem_of_getElem? (i := 106) (by decide +kernel), pd_224, by decide +kernel, by decide +kernel, by decide +kernel⟩
theorem pk_224 : pg_okV 224 := ⟨List.mem_of_getElem? (i := 1567) (by decide +kernel), List.mem_of_getElem? (i := 74) (by decide +kernel)⟩
theorem pm_225 : pg_okM 225 := ⟨List.mem_of_getElem? (i := 1560) (by decide +kernel), List.mem_of_getElem? (i := 106) (by decide +kernel), pd_225, by decide +kernel, by decide +kernel, by decide +kernel⟩
theorem pk_225 : pg_okV 225 := ⟨List.mem_of_getElem? (i := 1559) (by decide +kernel), List.mem_of_getElem? (i := 72) (by decide +kernel)⟩
theorem pm_226 : pg_okM 226 := ⟨List.mem_of_getElem? (i := 1564) (by decide +kernel), List.mem_of_getElem? (i := 106) (by decide +kernel), pd_226, by decide +kernel, by decide +kernel, by decide +kernel⟩
theorem pk_226 : pg_okV 226 := ⟨List.mem_of_getElem? (i := 1563) (by decide +kernel), List.mem_of_getElem? (i := 73) (by decide +kernel)⟩
theorem pm_227 : pg_okM 227 := ⟨List.mem_of_getElem? (i := 1552) (by decide +kernel), List.mem_of_getElem? (i := 106) (by decide +kernel), pd_227, by decide +kernel, by decide +kernel, by decide +kernel⟩
theorem pk_227 : pg_okV 227 := ⟨List.mem_of_getElem? (i := 1550) (by decide +kernel), List.mem_of_getElem? (i := 1551) (by decide +kernel)⟩
theorem pm_228 : pg_okM 228 := ⟨List.mem_of_getElem? (i := 1580) (by decide +kernel), List.mem_of_getElem? (i := 106) (by decide +kernel), pd_228, by decide +kernel, by decide +kernel, by decide +kernel⟩
theorem pk_228 : pg_okV 228 := ⟨List.mem_of_getElem? (i := 1579) (by decide +kernel), List.mem_of_getElem? (i := 76) (by decide +kernel)⟩
theorem pm_229 : pg_okM 229 := ⟨List.mem_of_getElem? (i := 1576) (by decide +kernel), List.mem_of_getElem? (i := 106) (by decide +kernel), pd_229, by decide +kernel, by decide +kernel, by decide +kernel⟩
theorem pk_229 : pg_okV 229 := ⟨List.mem_of_getElem? (i := 1575) (by decide +kernel), List.mem_of_getElem? (i := 75) (by decide +kernel)⟩
theorem pm_230 : pg_okM 230 := ⟨List.mem_of_getElem? (i := 1588) (by decide +kernel), List.mem_of_getElem? (i := 106) (by decide +kernel), pd_230, by decide +kernel, by decide +kernel, by decide +kernel⟩
theorem pk_230 : pg_okV 230 := ⟨List.mem_of_getElem? (i := 1587) (by decide +kernel), List.mem_of_getElem? (i := 78) (by decide +kernel)⟩
theorem pm_231 : pg_okM 231 := ⟨List.mem_of_getElem? (i := 1572) (by decide +kernel), List.mem_of_getElem? (i := 106) (by decide +kernel), pd_231, by decide +kernel, by decide +kernel, by decide +kernel⟩
theorem pk_231 : pg_okV 231 := ⟨List.mem_of_getElem? (i := 1570) (by decide +kernel), List.mem_of_getElem? (i := 1571) (by decide +kernel)⟩
theorem pm_232 : pg_okM 232 := ⟨List.mem_of_getElem? (i := 1596) (by decide +kernel), List.mem_of_getElem? (i := 106) (by decide +kernel), pd_232, by decide +kernel, by decide +kernel, by decide +kernel⟩
theorem pk_232 : pg_okV 232 := ⟨List.mem_of_getElem? (i := 1595) (by decide +kernel), List.mem_of_getElem? (i := 79) (by decide +kernel)⟩
theorem pm_233 : pg_okM 233 := ⟨List.mem_of_getElem? (i := 1592) (by decide +kernel), List.mem_of_getElem? (i := 106) (by decide +kernel), pd_233, by decide +kernel, by decide +kernel, by decide +kernel⟩
theorem pk_233 : pg_okV 233 := ⟨List.mem_of_getElem? (i := 1590) (by decide +kernel), List.mem_of_getElem? (i := 1591) (by decide +kernel)⟩
theorem pm_234 : pg_okM 234 := ⟨List.mem_of_getElem? (i := 1604) (by decide +kernel), List.mem_of_getElem? (i := 106) (by decide +kernel), pd_234, by decide +kernel, by decide +kernel, by decide +kernel⟩
theorem pk_234 : pg_okV 234 := ⟨List.mem_of_getElem? (i := 1603) (by decide +kernel), List.mem_of_getElem? (i := 80) (by decide +kernel)⟩
theorem pm_235 : pg_okM 235 := ⟨List.mem_of_getElem? (i := 1600) (by decide +kernel), List.mem_of_getElem? (i := 106) (by decide +kernel), pd_235, by decide +kernel, by decide +kernel, by decide +kernel⟩
theorem pk_235 : pg_okV 235 := ⟨List.mem_of_getElem? (i := 1598) (by decide +kernel), List.mem_of_getElem? (i := 1599) (by decide +kernel)⟩
theorem pm_236 : pg_okM 236 := ⟨List.mem_of_getElem? (i := 1608) (by decide +kernel), List.mem_of_getElem? (i := 106) (by decide +kernel), pd_236, by decide +kernel, by decide +kernel, by decide +kernel⟩
theorem pk_236 : pg_okV 236 := ⟨List.mem_of_getElem? (i := 1606) (by decide +kernel), List.mem_of_getElem? (i := 1607) (by decide +kernel)⟩
theorem pm_237 : pg_okM 237 := ⟨List.mem_of_getElem? (i := 1616) (by decide +kernel), List.mem_of_getElem? (i := 106) (by decide +kernel), pd_237, by decide +kernel, by decide +kernel, by decide +kernel⟩
theorem pk_237 : pg_okV 237 := ⟨List.mem_of_getElem? (i := 1615) (by decide +kernel), List.mem_of_getElem? (i := 81) (by decide +kernel)⟩
theorem pm_238 : pg_okM 238 := ⟨List.mem_of_getElem? (i := 1620) (by decide +kernel), List.mem_of_getElem? (i := 106) (by decide +kernel), pd_238, by decide +kernel, by decide +kernel, by decide +kernel⟩
theorem pk_238 : pg_okV 238 := ⟨List.mem_of_getElem? (i := 1619) (by decide +kernel), List.mem_of_getElem? (i := 82) (by decide +kernel)⟩
theorem pm_239 : pg_okM 239 := ⟨List.mem_of_getElem? (i := 1612) (by decide +kernel), List.mem_of_getElem? (i := 106) (by decide +kernel), pd_239, by decide +kernel, by decide +kernel, by decide +kernel⟩
theorem pk_239 : pg_okV 239 := ⟨List.mem_of_getElem? (i := 1610) (by decide +kernel), List.mem_of_getElem? (i := 1611) (by decide +kernel)⟩
theorem pm_240 : pg_okM 240 := ⟨List.mem_of_getElem? (i := 1628) (by decide +kernel), List.mem_of_getElem? (i := 106) (by decide +kernel), pd_240, by decide +kernel, by decide +kernel, by decide +kernel⟩
theorem pk_240 : pg_okV 240 := ⟨List.mem_of_getElem? (i := 1627) (by decide +kernel), List.mem_of_getElem? (i := 83) (by decide +kernel)⟩
theorem pm_241 : pg_okM 241 := ⟨List.mem_of_getElem? (i := 1632) (by decide +kernel), List.mem_of_getElem? (i := 106) (by decide +kernel), pd_241, by decide +kernel, by decide +kernel, by decide +kernel⟩
theorem pk_241 : pg_okV 241 := ⟨List.mem_of_getElem? (i := 1631) (by decide +kernel), List.mem_of_getElem? (i := 84) (by decide +kernel)⟩
theorem pm_242 : pg_okM 242 := ⟨List.mem_of_getElem? (i := 1624) (by decide +kernel), List.mem_of_getElem? (i := 106) (by decide +kernel), pd_242, by decide +kernel, by decide +kernel, by decide +kernel⟩
theorem pk_242 : pg_okV 242 := ⟨List.mem_of_getElem? (i := 1622) (by decide +kernel), List.mem_of_getElem? (i := 1623) (by decide +kernel)⟩
theorem pm_243 : pg_okM 243 := ⟨List.mem_of_getElem? (i := 1640) (by decide +kernel), List.mem_of_getElem? (i := 106) (by decide +kernel), pd_243, by decide +kernel, by decide +kernel, by decide +kernel⟩
theorem pk_243 : pg_okV 243 := ⟨List.mem_of_getElem? (i := 1639) (by decide +kernel), List.mem_of_getElem? (i := 85) (by decide +kernel)⟩
theorem pm_244 : pg_okM 244 := ⟨List.mem_of_getElem? (i := 1636) (by decide +kernel), List.mem_of_getElem? (i := 106) (by decide +kernel), pd_244, by decide +kernel, by decide +kernel, by decide +kernel⟩
theorem pk_244 : pg_okV 244 := ⟨List.mem_of_getElem? (i := 1634) (by decide +kernel), List.mem_of_getElem? (i := 1635) (by decide +kernel)⟩
theorem pm_245 : pg_okM 245 := ⟨List.mem_of_getElem? (i := 1652) (by decide +kernel), List.mem_of_getElem? (i := 106) (by decide +kernel), pd_245, by decide +kernel, by decide +kernel, by decide +kernel⟩
theorem pk_245 : pg_okV 245 := ⟨List.mem_of_getElem? (i := 1651) (by decide +kernel), List.mem_of_getElem? (i := 87) (by decide +kernel)⟩
theorem pm_246 : pg_okM 246 := ⟨List.mem_of_getElem? (i := 1648) (by decide +kernel), List.mem_of_getElem? (i := 106) (by decide +kernel), pd_246, by decide +kernel, by decide +kernel, by decide +kernel⟩
theorem pk_246 : pg_okV 246 := ⟨List.mem_of_getElem? (i := 1647) (by decide +kernel), List.mem_of_getElem? (i := 86) (by decide +kernel)⟩
theorem pm_247 : pg_okM 247 := ⟨List.mem_of_getElem? (i := 1644) (by decide +kernel), List.mem_of_getElem? (i := 106) (by decide +kernel), pd_247, by decide +kernel, by decide +kernel, by decide +kernel⟩
theorem pk_247 : pg_okV 247 := ⟨List.mem_of_getElem? (i := 1642) (by decide +kernel), List.mem_of_getElem? (i := 1643) (by decide +kernel)⟩
theorem pm_248 : pg_okM 248 := ⟨List.mem_of_getElem? (i := 1656) (by decide +kernel), List.mem_of_getElem? (i := 106) (by decide +kernel), pd_248, by decide +kernel, by decide +kernel, by decide +kernel⟩
theorem pk_248 : pg_okV 248 := ⟨List.mem_of_getElem? (i := 1654) (by decide +kernel), List.mem_of_getElem? (i := 1655) (by decide +kernel)⟩
theorem pm_249 : pg_okM 249 := ⟨List.mem_of_getElem? (i := 1668) (by decide +kernel), List.mem_of_getElem? (i := 106) (by decide +kernel), pd_249, by decide +kernel, by decide +kernel, by decide +kernel⟩
theorem pk_249 : pg_okV 249 := ⟨List.mem_of_getElem? (i := 1667) (by decide +kernel), List.mem_of_getElem? (i := 89) (by decide +kernel)⟩
theorem pm_250 : pg_okM 250 := ⟨List.mem_of_getElem? (i := 1664) (by decide +kernel), List.mem_of_getElem? (i := 106) (by decide +kernel), pd_250, by decide +kernel, by decide +kernel, by decide +kernel⟩
theorem pk_250 : pg_okV 250 := ⟨List.mem_of_getElem? (i := 1663) (by decide +kernel), List.mem_of_getElem? (i := 88) (by decide +kernel)⟩
theorem pm_251 : pg_okM 251 := ⟨List.mem_of_getElem? (i := 1660) (by decide +kernel), List.mem_of_getElem? (i := 106) (by decide +kernel), pd_251, by decide +kernel, by decide +kernel, by decide +kernel⟩
theorem pk_251 : pg_okV 251 := ⟨List.mem_of_getElem? (i := 1658) (by decide +kernel), List.mem_of_getElem? (i := 1659) (by decide +kernel)⟩
theorem pm_252 : pg_okM 252 := ⟨List.mem_of_getElem? (i := 1680) (by decide +kernel), List.mem_of_getElem? (i := 106) (by decide +kernel), pd_252, by decide +kernel, by decide +kernel, by decide +kernel⟩
theorem pk_252 : pg_okV 252 := ⟨List.mem_of_getElem? (i := 1679) (by decide +kernel), List.mem_of_getElem? (i := 91) (by decide +kernel)⟩
theorem pm_253 : pg_okM 253 := ⟨List.mem_of_getElem? (i := 1685) (by decide +kernel), List.mem_of_getElem? (i := 106) (by decide +kernel), pd_253, by decide +kernel, by decide +kernel, by decide +kernel⟩
theorem pk_253 : pg_okV 253 := ⟨List.mem_of_getElem? (i := 1684) (by decide +kernel), List.mem_of_getElem? (i := 92) (by decide +kernel)⟩
theorem pm_254 : pg_okM 254 := ⟨List.mem_of_getElem? (i := 1676) (by decide +kernel), List.mem_of_getElem? (i := 106) (by decide +kernel), pd_254, by decide +kernel, by decide +kernel, by decide +kernel⟩
theorem pk_254 : pg_okV 254 := ⟨List.mem_of_getElem? (i := 1675) (by decide +kernel), List.mem_of_getElem? (i := 90) (by decide +kernel)⟩
theorem pm_255 : pg_okM 255 := ⟨List.mem_of_getElem? (i := 1672) (by decide +kernel), List.mem_of_getElem? (i := 106) (by decide +kernel), pd_255, by decide +kernel, by decide +kernel, by decide +kernel⟩
theorem pk_255 : pg_okV 255 := ⟨List.mem_of_getElem? (i := 1670) (by decide +kernel), List.mem_of_getElem? (i := 1671) (by decide +kernel)⟩
theorem pm_256 : pg_okM 256 := ⟨List.mem_of_getElem? (i := 1689) (by decide +kernel), List.mem_of_getElem? (i := 106) (by decide +kernel), pd_256, by decide +kernel, by decide +kernel, by decide +kernel⟩
theorem pk_256 : pg_okV 256 := ⟨List.mem_of_getElem? (i := 1687) (by decide +kernel), List.mem_of_getElem? (i := 1688) (by decide +kernel)⟩
theorem pm_257 : pg_okM 257 := ⟨List.mem_of_getElem? (i := 1693) (by decide +kernel), List.mem_of_getElem? (i := 106) (by decide +kernel), pd_257, by decide +kernel, by decide +kernel, by decide +kernel⟩
theorem pk_257 : pg_okV 257 := ⟨List.mem_of_getElem? (i := 1691) (by decide +kernel), List.mem_of_getElem? (i := 1692) (by decide +kernel)⟩
theorem pm_258 : pg_okM 258 := ⟨List.mem_of_getElem? (i := 1697) (by decide +kernel), List.mem_of_getElem? (i := 106) (by decide +kernel), pd_258, by decide +kernel, by decide +kernel, by decide +kernel⟩
theorem pk_258 : pg_okV 258 := ⟨List.mem_of_getElem? (i := 1695) (by decide +kernel), List.mem_of_getElem? (i := 1696) (by decide +kernel)⟩
theorem pm_259 : pg_okM 259 := ⟨List.mem_of_getElem? (i := 1701) (by decide +kernel), List.mem_of_getElem? (i := 106) (by decide +kernel), pd_259, by decide +kernel, by decide +kernel, by decide +kernel⟩
theorem pk_259 : pg_okV 259 := ⟨List.mem_of_getElem? (i := 1699) (by decide +kernel), List.mem_of_getElem? (i := 1700) (by decide +kernel)⟩
theorem pm_260 : pg_okM 260 := ⟨List.mem_of_getElem? (i := 1705) (by decide +kernel), List.mem_of_getElem? (i := 106) (by decide +kernel), pd_260, by decide +kernel, by decide +kernel, by decide +kernel⟩
theorem pk_260 : pg_okV 260 := ⟨List.mem_of_getElem? (i := 1703) (by decide +kernel), List.mem_of_getElem? (i := 1704) (by decide +kernel)⟩
theorem pm_261 : pg_okM 261 := ⟨List.mem_of_getElem? (i := 1713) (by decide +kernel), List.mem_of_getElem? (i := 106) (by decide +kernel), pd_261, by decide +kernel, by decide +kernel, by decide +kernel⟩
theorem pk_261 : pg_okV 261 := ⟨List.mem_of_getElem? (i := 1712) (by decide +kernel), List.mem_of_getElem? (i := 93) (by decide +kernel)⟩
theorem pm_262 : pg_okM 262 := ⟨List.mem_of_getElem? (i := 1709) (by decide +kernel), List.mem_of_getElem? (i := 106) (by decide +kernel), pd_262, by decide +kernel, by decide +kernel, by decide +kernel⟩
theorem pk_262 : pg_okV 262 := ⟨List.mem_of_getElem? (i := 1707) (by decide +kernel), List.mem_of_getElem? (i := 1708) (by decide +kernel)⟩
theorem pm_263 : pg_okM 263 := ⟨List.mem_of_getElem? (i := 1717) (by decide +kernel), List.mem_of_getElem? (i := 106) (by decide +kernel), pd_263, by decide +kernel, by decide +kernel, by decide +kernel⟩
theorem pk_263 : pg_okV 263 := ⟨List.mem_of_getElem? (i := 1715) (by decide +kernel), List.mem_of_getElem? (i := 1716) (by decide +kernel)⟩
theorem pm_264 : pg_okM 264 := ⟨List.mem_of_getElem? (i := 1721) (by decide +kernel), List.mem_of_getElem? (i := 106) (by decide +kernel), pd_264, by decide +kernel, by decide +kernel, by decide +kernel⟩
theorem pk_264 : pg_okV 264 := ⟨List.mem_of_getElem? (i := 1719) (by decide +kernel), List.mem_of_getElem? (i := 1720) (by decide +kernel)⟩
theorem pm_265 : pg_okM 265 := ⟨List.mem_of_getElem? (i := 1725) (by decide +kernel), List.mem_of_getElem? (i := 106) (by decide +kernel), pd_265, by decide +kernel, by decide +kernel, by decide +kernel⟩
theorem pk_265 : pg_okV 265 := ⟨List.mem_of_getElem? (i := 1723) (by decide +kernel), List.mem_of_getElem? (i := 1724) (by decide +kernel)⟩
theorem pm_266 : pg_okM 266 := ⟨List.mem_of_getElem? (i := 1733) (by decide +kernel), List.mem_of_getElem? (i := 106) (by decide +kernel), pd_266, by decide +kernel, by decide +kernel, by decide +kernel⟩
theorem pk_266 : pg_okV 266 := ⟨List.mem_of_getElem? (i := 1732) (by decide +kernel), List.mem_of_getElem? (i := 94) (by decide +kernel)⟩
theorem pm_267 : pg_okM 267 := ⟨List.mem_of_getElem? (i := 1729) (by decide +kernel), List.mem_of_getElem? (i := 106) (by decide +kernel), pd_267, by decide +kernel, by decide +kernel, by decide +kernel⟩
theorem pk_267 : pg_okV 267 := ⟨List.mem_of_getElem? (i := 1727) (by decide +kernel), List.mem_of_getElem? (i := 1728) (by decide +kernel)⟩
theorem pm_268 : pg_okM 268 := ⟨List.mem_of_getElem? (i := 1737) (by decide +kernel), List.mem_of_getElem? (i := 106) (by decide +kernel), pd_268, by decide +kernel, by decide +kernel, by decide +kernel⟩
theorem pk_268 : pg_okV 268 := ⟨List.mem_of_getElem? (i := 1735) (by decide +kernel), List.mem_of_getElem? (i := 1736) (by decide +kernel)⟩
theorem pm_269 : pg_okM 269 := ⟨List.mem_of_getElem? (i := 1741) (by decide +kernel), List.mem_of_getElem? (i := 106) (by decide +kernel), pd_269, by decide +kernel, by decide +kernel, by decide +kernel⟩
theorem pk_269 : pg_okV 269 := ⟨List.mem_of_getElem? (i := 1739) (by decide +kernel), List.mem_of_getElem? (i := 1740) (by decide +kernel)⟩
theorem pm_270 : pg_okM 270 := ⟨List.mem_of_getElem? (i := 1746) (by decide +kernel), List.mem_of_getElem? (i := 106) (by decide +kernel), pd_270, by decide +kernel, by decide +kernel, by decide +kernel⟩
theorem pk_270 : pg_okV 270 := ⟨List.mem_of_getElem? (i := 1744) (by decide +kernel), List.mem_of_getElem? (i := 1745) (by decide +kernel)⟩
theorem pm_271 : pg_okM 271 := ⟨List.mem_of_getElem? (i := 1750) (by decide +kernel), List.mem_of_getElem? (i := 106) (by decide +kernel), pd_271, by decide +kernel, by decide +kernel, by decide +kernel⟩
theorem pk_271 : pg_okV 271 := ⟨List.mem_of_getElem? (i := 1748) (by decide +kernel), List.mem_of_getElem? (i := 1749) (by decide +kernel)⟩
theorem pm_272 : pg_okM 272 := ⟨List.mem_of_getElem? (i := 1754) (by decide +kernel), List.mem_of_getElem? (i := 106) (by decide +kernel), pd_272, by decide +kernel, by decide +kernel, by decide +kernel⟩
theorem pk_272 : pg_okV 272 := ⟨List.mem_of_getElem? (i := 1752) (by decide +kernel), List.mem_of_getElem? (i := 1753) (by decide +kernel)⟩
theorem pm_273 : pg_okM 273 := ⟨List.mem_of_getElem? (i := 1758) (by decide +kernel), List.mem_of_getElem? (i := 106) (by decide +kernel), pd_273, by decide +kernel, by decide +kernel, by decide +kernel⟩
theorem pk_273 : pg_okV 273 := ⟨List.mem_of_getElem? (i := 1756) (by decide +kernel), List.mem_of_getElem? (i := 1757) (by decide +kernel)⟩
theorem pm_274 : pg_okM 274 := ⟨List.mem_of_getElem? (i := 1762) (by decide +kernel), List.mem_of_getElem? (i := 106) (by decide +kernel), pd_274, by decide +kernel, by decide +kernel, by decide +kernel⟩
theorem pk_274 : pg_okV 274 := ⟨List.mem_of_getElem? (i := 1760) (by decide +kernel), List.mem_of_getElem? (i := 1761) (by decide +kernel)⟩
theorem pm_275 : pg_okM 275 := ⟨List.mem_of_getElem? (i := 1766) (by decide +kernel), List.mem_of_getElem? (i := 106) (by decide +kernel), pd_275, by decide +kernel, by decide +kernel, by decide +kernel⟩
theorem pk_275 : pg_okV 275 := ⟨List.mem_of_getElem? (i := 1764) (by decide +kernel), List.mem_of_getElem? (i := 1765) (by decide +kernel)⟩
theorem pm_276 : pg_okM 276 := ⟨List.mem_of_getElem? (i := 1770) (by decide +kernel), List.mem_of_getElem? (i := 106) (by decide +kernel), pd_276, by decide +kernel, by decide +kernel, by decide +kernel⟩
theorem pk_276 : pg_okV 276 := ⟨List.mem_of_getElem? (i := 1768) (by decide +kernel), List.mem_of_getElem? (i := 1769) (by decide +kernel)⟩
theorem pm_277 : pg_okM 277 := ⟨List.mem_of_getElem? (i := 1183) (by decide +kernel), List.mem_of_getElem? (i := 113) (by decide +kernel), pd_277, by decide +kernel, by decide +kernel, by decide +kernel⟩
theorem pk_277 : pg_okS 277 := List.mem_of_getElem? (i := 1182) (by decide +kernel)
theorem pm_278 : pg_okM 278 := ⟨List.mem_of_getElem? (i := 1041) (by decide +kernel), List.mem_of_getElem? (i := 113) (by decide +kernel), pd_278, by decide +kernel, by decide +kernel, by decide +kernel⟩
theorem pk_278 : pg_okS 278 := List.mem_of_getElem? (i := 1040) (by decide +kernel)
theorem pm_279 : pg_okM 279 := ⟨List.mem_of_getElem? (i := 775) (by decide +kernel), List.mem_of_getElem? (i := 113) (by decide +kernel), pd_279, by decide +kernel, by decide +kernel, by decide +kernel⟩
theorem pk_279 : pg_okS 279 := List.mem_of_getElem? (i := 774) (by decide +kernel)
theorem pm_280 : pg_okM 280 := ⟨List.mem_of_getElem? (i := 1034) (by decide +kernel), List.mem_of_getElem? (i := 107) (by decide +kernel), pd_280, by decide +kernel, by decide +kernel, by decide +kernel⟩
theorem pk_280 : pg_okS 280 := List.mem_of_getElem? (i := 1033) (by decide +kernel)
theorem pm_281 : pg_okM 281 := ⟨List.mem_of_getElem? (i := 662) (by decide +kernel), List.mem_of_getElem? (i := 107) (by decide +kernel), pd_281, by decide +kernel, by decide +kernel, by decide +kernel⟩
theorem pk_281 : pg_okS 281 := List.mem_of_getElem? (i := 661) (by decide +kernel)
theorem pm_282 : pg_okM 282 := ⟨List.mem_of_getElem? (i := 519) (by decide +kernel), List.mem_of_getElem? (i := 107) (by decide +kernel), pd_282, by decide +kernel, by decide +kernel, by decide +kernel⟩
theorem pk_282 : pg_okS 282 := List.mem_of_getElem? (i := 518) (by decide +kernel)
theorem pm_283 : pg_okM 283 := ⟨List.mem_of_getElem? (i := 556) (by decide +kernel), List.mem_of_getElem? (i := 109) (by decide +kernel), pd_283, by decide +kernel, by decide +kernel, by decide +kernel⟩
theorem pk_283 : pg_okV 283 := ⟨List.mem_of_getElem? (i := 554) (by decide +kernel), List.mem_of_getElem? (i := 555) (by decide +kernel)⟩
theorem pm_284 : pg_okM 284 := ⟨List.mem_of_getElem? (i := 566) (by decide +kernel), List.mem_of_getElem? (i := 109) (by decide +kernel), pd_284, by decide +kernel, by decide +kernel, by decide +kernel⟩
theorem pk_284 : pg_okV 284 := ⟨List.mem_of_getElem? (i := 564) (by decide +kernel), List.mem_of_getElem? (i := 565) (by decide +kernel)⟩
theorem pm_285 : pg_okM 285 := ⟨List.mem_of_getElem? (i := 560) (by decide +kernel), List.mem_of_getElem? (i := 109) (by decide +kernel), pd_285, by decide +kernel, by decide +kernel, by decide +kernel⟩
theorem pk_285 : pg_okV 285 := ⟨List.mem_of_getElem? (i := 558) (by decide +kernel), List.mem_of_getElem? (i := 559) (by decide +kernel)⟩
theorem pm_286 : pg_okM 286 := ⟨List.mem_of_getElem? (i := 570) (by decide +kernel), List.mem_of_getElem? (i := 109) (by decide +kernel), pd_286, by decide +kernel, by decide +kernel, by decide +kernel⟩
theorem pk_286 : pg_okV 286 := ⟨List.mem_of_getElem? (i := 568) (by decide +kernel), List.mem_of_getElem? (i := 569) (by decide +kernel)⟩
theorem pm_287 : pg_okM 287 := ⟨List.mem_of_getElem? (i := 576) (by decide +kernel), List.mem_of_getElem? (i := 109) (by decide +kernel), pd_287, by decide +kernel, by decide +kernel, by decide +kernel⟩
theorem pk_287 : pg_okS 287 := List.mem_of_getElem? (i := 575) (by decide +kernel)
theorem pm_288 : pg_okM 288 := ⟨List.mem_of_getElem? (i := 573) (by decide +kernel), List.mem_of_getElem? (i := 110) (by decide +kernel), pd_288, by decide +kernel, by decide +kernel, by decide +kernel⟩
theorem pk_288 : pg_okS 288 := List.mem_of_getElem? (i := 572) (by decide +kernel)
theorem pm_289 : pg_okM 289 := ⟨List.mem_of_getElem? (i := 581) (by decide +kernel), List.mem_of_getElem? (i := 111) (by decide +kernel), pd_289, by decide +kernel, by decide +kernel, by decide +kernel⟩
theorem pk_289 : pg_okS 289 := List.mem_of_getElem? (i := 580) (by decide +kernel)
end
