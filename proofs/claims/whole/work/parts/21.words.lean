/-! the tables' words, by the small machine's own tables and by their places in tables_1 -/
def TW : List Cond := lw_tbl.filter goodWord
def spW : Cond → Bool
  | .declares _ => true
  | .castable _ _ => true
  | .methodLinkNest _ _ _ _ => true
  | _ => false
def TX : List Cond := lw_tbl.filter spW
theorem TW_in {w : Cond} (h : w ∈ tables_1) (g : goodWord w = true) : w ∈ TW := List.mem_filter.mpr ⟨List.mem_append_right _ h, g⟩
theorem TX_in {w : Cond} (h : w ∈ tables_1) (g : spW w = true) : w ∈ TX := List.mem_filter.mpr ⟨List.mem_append_right _ h, g⟩
/-- words by their places -/
def atP (ws : List Cond) (ps : List Nat) : Bool := decide (ps.length = ws.length) && (ws.zip ps).all fun q => decide (tables_1[q.2]? = some q.1) && goodWord q.1
theorem atP_in {ws : List Cond} {ps : List Nat} (h : atP ws ps = true) : ∀ w ∈ ws, w ∈ TW := by
  simp only [atP, Bool.and_eq_true, decide_eq_true_eq, List.all_eq_true] at h
  intro w hw
  obtain ⟨n, hn, he⟩ := List.getElem_of_mem hw
  have h1 : (ws.zip ps)[n]'(by rw [List.length_zip]; omega) = (w, ps[n]'(by omega)) := by rw [List.getElem_zip, he]
  have h2 := h.2 _ (List.getElem_mem (by rw [List.length_zip]; omega : n < (ws.zip ps).length))
  rw [h1] at h2
  exact TW_in (List.mem_of_getElem? h2.1) h2.2
theorem zip_in {α β : Type} {l : List α} {l' : List β} {q : α} (hl : l.length ≤ l'.length) (h : q ∈ l) : ∃ i, (q, i) ∈ l.zip l' := by
  obtain ⟨n, hn, he⟩ := List.getElem_of_mem h
  refine ⟨l'[n]'(by omega), ?_⟩
  have h1 : (l.zip l')[n]'(by rw [List.length_zip]; omega) = (q, l'[n]'(by omega)) := by rw [List.getElem_zip, he]
  rw [← h1]
  exact List.getElem_mem _
def ownN (o : Nat) : String := ownT.getD o ""
def mW (k : Nat) : Cond := match mH k with
  | [] => .code (mY k) (mB k) (mL k) (mR k)
  | r :: rs => .codeWith (mY k) (mB k) (mL k) (mR k) (r :: rs)
def fldI : List (List Nat) := [[110, 117, 119, 121, 113, 115, 123], [141, 146, 151, 152, 154, 155, 156, 157, 111, 67, 120, 143, 118, 149, 122, 124, 114, 116, 72], [210, 213, 217, 219, 221, 223, 212, 216, 88, 90, 70, 142, 144, 112, 229, 158, 227, 147, 150, 68, 225, 153, 188, 186], [191, 193, 185, 187, 189, 190, 192], [66, 69], [87, 89], [47, 49, 50], [253, 254, 211, 215, 214, 218, 51, 220, 48, 71, 222, 145, 228, 226, 224, 148, 194], [1070, 1071, 1072, 1073, 1074, 1075, 1076, 1077, 1078, 1079, 1080, 1081, 1082, 1083, 1084, 1085, 1086, 1087, 1088, 1089, 1090, 1091, 1092, 1093, 1094, 1095, 1096, 1097, 1098, 1099, 1100, 1101, 1102, 1063, 1064, 1068, 1103, 1067, 1069, 1065, 1066], [], []]
set_option maxRecDepth 100000 in
set_option maxHeartbeats 4000000 in
theorem fld_tab : ∀ o, o < 11 → (fldT.getD o []).length ≤ (fldI.getD o []).length ∧ ∀ q ∈ (fldT.getD o []).zip (fldI.getD o []), (q.1.2.1 < 9 ∧ q.1.2.2 < nF q.1.2.1) ∧ atP [Cond.fieldLink (ownN o) q.1.1 (tF q.1.2.1 q.1.2.2).1 (tF q.1.2.1 q.1.2.2).2.1 (tF q.1.2.1 q.1.2.2).2.2.1] [q.2] = true := by decide +kernel
def clsI : List (List Nat) := [[125, 127, 129, 131, 133, 135, 137, 103, 7], [159, 161, 163, 165, 167, 169, 171, 173, 175, 177, 96, 6], [230, 232, 234, 236, 238, 240, 242, 244, 246, 248, 250, 34, 2], [195, 197, 199, 201, 203, 205, 207, 180, 8], [73, 75, 61, 4], [91, 93, 82, 5], [52, 54, 56, 42, 3], [255, 257, 26, 1], [1104, 1106, 1108, 1110, 1112, 1114, 1116, 1118, 1120, 1122, 1124, 1126, 1128, 1130, 1132, 1134, 1136, 1138, 1140, 1142, 1144, 1146, 1148, 1150, 1152, 1154, 1156, 1158, 1160, 1162, 1164, 1166, 1168, 1170, 1172, 1174, 1176, 1178, 1180, 1182, 1184, 1058, 9]]
set_option maxRecDepth 100000 in
theorem cls_tab : ∀ ci, ci < 9 → atP (u_ws (rF ci) (tF ci) (nF ci) ++ [Cond.instantiable (rF ci) (nF ci), Cond.initialized (rF ci)]) (clsI.getD ci []) = true := by decide +kernel
theorem cls_ty : ∀ ci, ci < 9 → ∀ j, j < nF ci → parseFieldDescriptor (tF ci j).2.2.1 = some (yF ci j) := by decide +kernel
theorem cls_nm : ∀ ci, ci < 9 → ∀ a, a < nF ci → ∀ b, b < nF ci → a ≠ b → (tF ci a).2.1 ≠ (tF ci b).2.1 := by
  intro ci h
  rcases ci with _ | _ | _ | _ | _ | _ | _ | _ | _ | ci
  · exact nmX0
  · exact nmX1
  · exact nmX2
  · exact nmX3
  · exact nmX4
  · exact nmX5
  · exact nmX6
  · exact nmX7
  · exact nmX8
  · omega
theorem cls_row : ∀ ci, ci < 9 → vw9[ci]? = some (rF ci, tF ci, nF ci) := by
  intro ci h
  rcases ci with _ | _ | _ | _ | _ | _ | _ | _ | _ | ci
  all_goals first | rfl | omega
set_option maxRecDepth 100000 in
theorem mw_0 : tables_1[106]? = some (mW 0) := rfl
set_option maxRecDepth 100000 in
theorem mw_1 : tables_1[698]? = some (mW 1) := rfl
set_option maxRecDepth 100000 in
theorem mw_2 : tables_1[709]? = some (mW 2) := rfl
set_option maxRecDepth 100000 in
theorem mw_3 : tables_1[720]? = some (mW 3) := rfl
set_option maxRecDepth 100000 in
theorem mw_4 : tables_1[731]? = some (mW 4) := rfl
set_option maxRecDepth 100000 in
theorem mw_5 : tables_1[742]? = some (mW 5) := rfl
set_option maxRecDepth 100000 in
theorem mw_6 : tables_1[99]? = some (mW 6) := rfl
set_option maxRecDepth 100000 in
theorem mw_7 : tables_1[753]? = some (mW 7) := rfl
set_option maxRecDepth 100000 in
theorem mw_8 : tables_1[764]? = some (mW 8) := rfl
set_option maxRecDepth 100000 in
theorem mw_9 : tables_1[314]? = some (mW 9) := rfl
set_option maxRecDepth 100000 in
theorem mw_10 : tables_1[346]? = some (mW 10) := rfl
set_option maxRecDepth 100000 in
theorem mw_11 : tables_1[775]? = some (mW 11) := rfl
set_option maxRecDepth 100000 in
theorem mw_12 : tables_1[855]? = some (mW 12) := rfl
set_option maxRecDepth 100000 in
theorem mw_13 : tables_1[871]? = some (mW 13) := rfl
set_option maxRecDepth 100000 in
theorem mw_14 : tables_1[302]? = some (mW 14) := rfl
set_option maxRecDepth 100000 in
theorem mw_15 : tables_1[790]? = some (mW 15) := rfl
set_option maxRecDepth 100000 in
theorem mw_16 : tables_1[795]? = some (mW 16) := rfl
set_option maxRecDepth 100000 in
theorem mw_17 : tables_1[310]? = some (mW 17) := rfl
set_option maxRecDepth 100000 in
theorem mw_18 : tables_1[306]? = some (mW 18) := rfl
set_option maxRecDepth 100000 in
theorem mw_19 : tables_1[1020]? = some (mW 19) := rfl
set_option maxRecDepth 100000 in
theorem mw_20 : tables_1[819]? = some (mW 20) := rfl
set_option maxRecDepth 100000 in
theorem mw_21 : tables_1[1055]? = some (mW 21) := rfl
set_option maxRecDepth 100000 in
theorem mw_22 : tables_1[341]? = some (mW 22) := rfl
set_option maxRecDepth 100000 in
theorem mw_23 : tables_1[37]? = some (mW 23) := rfl
set_option maxRecDepth 100000 in
theorem mw_24 : tables_1[430]? = some (mW 24) := rfl
set_option maxRecDepth 100000 in
theorem mw_25 : tables_1[502]? = some (mW 25) := rfl
set_option maxRecDepth 100000 in
theorem mw_26 : tables_1[510]? = some (mW 26) := rfl
set_option maxRecDepth 100000 in
theorem mw_27 : tables_1[522]? = some (mW 27) := rfl
set_option maxRecDepth 100000 in
theorem mw_28 : tables_1[622]? = some (mW 28) := rfl
set_option maxRecDepth 100000 in
theorem mw_29 : tables_1[694]? = some (mW 29) := rfl
set_option maxRecDepth 100000 in
theorem mw_30 : tables_1[670]? = some (mW 30) := rfl
set_option maxRecDepth 100000 in
theorem mw_31 : tables_1[780]? = some (mW 31) := rfl
set_option maxRecDepth 100000 in
theorem mw_32 : tables_1[785]? = some (mW 32) := rfl
set_option maxRecDepth 100000 in
theorem mw_33 : tables_1[831]? = some (mW 33) := rfl
set_option maxRecDepth 100000 in
theorem mw_34 : tables_1[835]? = some (mW 34) := rfl
set_option maxRecDepth 100000 in
theorem mw_35 : tables_1[851]? = some (mW 35) := rfl
set_option maxRecDepth 100000 in
theorem mw_36 : tables_1[867]? = some (mW 36) := rfl
set_option maxRecDepth 100000 in
theorem mw_37 : tables_1[884]? = some (mW 37) := rfl
set_option maxRecDepth 100000 in
theorem mw_38 : tables_1[910]? = some (mW 38) := rfl
set_option maxRecDepth 100000 in
theorem mw_39 : tables_1[294]? = some (mW 39) := rfl
set_option maxRecDepth 100000 in
theorem mw_40 : tables_1[290]? = some (mW 40) := rfl
set_option maxRecDepth 100000 in
theorem mw_41 : tables_1[286]? = some (mW 41) := rfl
set_option maxRecDepth 100000 in
theorem mw_42 : tables_1[279]? = some (mW 42) := rfl
set_option maxRecDepth 100000 in
theorem mw_43 : tables_1[183]? = some (mW 43) := rfl
set_option maxRecDepth 100000 in
theorem mw_44 : tables_1[888]? = some (mW 44) := rfl
set_option maxRecDepth 100000 in
theorem mw_45 : tables_1[324]? = some (mW 45) := rfl
set_option maxRecDepth 100000 in
theorem mw_46 : tables_1[332]? = some (mW 46) := rfl
set_option maxRecDepth 100000 in
theorem mw_47 : tables_1[64]? = some (mW 47) := rfl
set_option maxRecDepth 100000 in
theorem mw_48 : tables_1[298]? = some (mW 48) := rfl
set_option maxRecDepth 100000 in
theorem mw_49 : tables_1[604]? = some (mW 49) := rfl
set_option maxRecDepth 100000 in
theorem mw_50 : tables_1[636]? = some (mW 50) := rfl
set_option maxRecDepth 100000 in
theorem mw_51 : tables_1[267]? = some (mW 51) := rfl
set_option maxRecDepth 100000 in
theorem mw_52 : tables_1[674]? = some (mW 52) := rfl
set_option maxRecDepth 100000 in
theorem mw_53 : tables_1[85]? = some (mW 53) := rfl
set_option maxRecDepth 100000 in
theorem mw_54 : tables_1[328]? = some (mW 54) := rfl
set_option maxRecDepth 100000 in
theorem mw_55 : tables_1[556]? = some (mW 55) := rfl
set_option maxRecDepth 100000 in
theorem mw_56 : tables_1[45]? = some (mW 56) := rfl
set_option maxRecDepth 100000 in
theorem mw_57 : tables_1[572]? = some (mW 57) := rfl
set_option maxRecDepth 100000 in
theorem mw_58 : tables_1[588]? = some (mW 58) := rfl
set_option maxRecDepth 100000 in
theorem mw_59 : tables_1[318]? = some (mW 59) := rfl
set_option maxRecDepth 100000 in
theorem mw_60 : tables_1[29]? = some (mW 60) := rfl
set_option maxRecDepth 100000 in
theorem mw_61 : tables_1[354]? = some (mW 61) := rfl
set_option maxRecDepth 100000 in
theorem mw_62 : tables_1[462]? = some (mW 62) := rfl
set_option maxRecDepth 100000 in
theorem mw_63 : tables_1[517]? = some (mW 63) := rfl
set_option maxRecDepth 100000 in
theorem mw_64 : tables_1[530]? = some (mW 64) := rfl
set_option maxRecDepth 100000 in
theorem mw_65 : tables_1[563]? = some (mW 65) := rfl
set_option maxRecDepth 100000 in
theorem mw_66 : tables_1[579]? = some (mW 66) := rfl
set_option maxRecDepth 100000 in
theorem mw_67 : tables_1[595]? = some (mW 67) := rfl
set_option maxRecDepth 100000 in
theorem mw_68 : tables_1[611]? = some (mW 68) := rfl
set_option maxRecDepth 100000 in
theorem mw_69 : tables_1[618]? = some (mW 69) := rfl
set_option maxRecDepth 100000 in
theorem mw_70 : tables_1[630]? = some (mW 70) := rfl
set_option maxRecDepth 100000 in
theorem mw_71 : tables_1[263]? = some (mW 71) := rfl
set_option maxRecDepth 100000 in
theorem mw_72 : tables_1[644]? = some (mW 72) := rfl
set_option maxRecDepth 100000 in
theorem mw_73 : tables_1[685]? = some (mW 73) := rfl
set_option maxRecDepth 100000 in
theorem mw_74 : tables_1[705]? = some (mW 74) := rfl
set_option maxRecDepth 100000 in
theorem mw_75 : tables_1[716]? = some (mW 75) := rfl
set_option maxRecDepth 100000 in
theorem mw_76 : tables_1[727]? = some (mW 76) := rfl
set_option maxRecDepth 100000 in
theorem mw_77 : tables_1[738]? = some (mW 77) := rfl
set_option maxRecDepth 100000 in
theorem mw_78 : tables_1[749]? = some (mW 78) := rfl
set_option maxRecDepth 100000 in
theorem mw_79 : tables_1[760]? = some (mW 79) := rfl
set_option maxRecDepth 100000 in
theorem mw_80 : tables_1[771]? = some (mW 80) := rfl
set_option maxRecDepth 100000 in
theorem mw_81 : tables_1[802]? = some (mW 81) := rfl
set_option maxRecDepth 100000 in
theorem mw_82 : tables_1[810]? = some (mW 82) := rfl
set_option maxRecDepth 100000 in
theorem mw_83 : tables_1[827]? = some (mW 83) := rfl
set_option maxRecDepth 100000 in
theorem mw_84 : tables_1[846]? = some (mW 84) := rfl
set_option maxRecDepth 100000 in
theorem mw_85 : tables_1[863]? = some (mW 85) := rfl
set_option maxRecDepth 100000 in
theorem mw_86 : tables_1[878]? = some (mW 86) := rfl
set_option maxRecDepth 100000 in
theorem mw_87 : tables_1[895]? = some (mW 87) := rfl
set_option maxRecDepth 100000 in
theorem mw_88 : tables_1[917]? = some (mW 88) := rfl
set_option maxRecDepth 100000 in
theorem mw_89 : tables_1[925]? = some (mW 89) := rfl
set_option maxRecDepth 100000 in
theorem mw_90 : tables_1[933]? = some (mW 90) := rfl
set_option maxRecDepth 100000 in
theorem mw_91 : tables_1[945]? = some (mW 91) := rfl
set_option maxRecDepth 100000 in
theorem mw_92 : tables_1[952]? = some (mW 92) := rfl
set_option maxRecDepth 100000 in
theorem mw_93 : tables_1[961]? = some (mW 93) := rfl
set_option maxRecDepth 100000 in
theorem mw_94 : tables_1[971]? = some (mW 94) := rfl
set_option maxRecDepth 100000 in
theorem mw_95 : tables_1[985]? = some (mW 95) := rfl
set_option maxRecDepth 100000 in
theorem mw_96 : tables_1[993]? = some (mW 96) := rfl
set_option maxRecDepth 100000 in
theorem mw_97 : tables_1[1002]? = some (mW 97) := rfl
set_option maxRecDepth 100000 in
theorem mw_98 : tables_1[1009]? = some (mW 98) := rfl
set_option maxRecDepth 100000 in
theorem mw_99 : tables_1[1016]? = some (mW 99) := rfl
set_option maxRecDepth 100000 in
theorem mw_100 : tables_1[271]? = some (mW 100) := rfl
set_option maxRecDepth 100000 in
theorem mw_101 : tables_1[275]? = some (mW 101) := rfl
set_option maxRecDepth 100000 in
theorem mw_102 : tables_1[1041]? = some (mW 102) := rfl
set_option maxRecDepth 100000 in
theorem mw_103 : tables_1[1051]? = some (mW 103) := rfl
set_option maxRecDepth 100000 in
theorem mw_104 : tables_1[337]? = some (mW 104) := rfl
set_option maxRecDepth 100000 in
theorem mw_105 : tables_1[906]? = some (mW 105) := rfl
set_option maxRecDepth 100000 in
theorem mw_106 : tables_1[466]? = some (mW 106) := rfl
set_option maxRecDepth 100000 in
theorem mw_107 : tables_1[567]? = some (mW 107) := rfl
set_option maxRecDepth 100000 in
theorem mw_108 : tables_1[599]? = some (mW 108) := rfl
set_option maxRecDepth 100000 in
theorem mw_109 : tables_1[534]? = some (mW 109) := rfl
set_option maxRecDepth 100000 in
theorem mw_110 : tables_1[583]? = some (mW 110) := rfl
set_option maxRecDepth 100000 in
theorem mw_111 : tables_1[899]? = some (mW 111) := rfl
set_option maxRecDepth 100000 in
theorem mw_112 : tables_1[648]? = some (mW 112) := rfl
set_option maxRecDepth 100000 in
theorem mw_113 : tables_1[689]? = some (mW 113) := rfl
set_option maxRecDepth 100000 in
theorem mw_114 : tables_1[814]? = some (mW 114) := rfl
set_option maxRecDepth 100000 in
theorem mw_115 : tables_1[975]? = some (mW 115) := rfl
set_option maxRecDepth 100000 in
theorem mw_116 : tables_1[482]? = some (mW 116) := rfl
set_option maxRecDepth 100000 in
theorem mw_117 : tables_1[282]? = some (mW 117) := rfl
set_option maxRecDepth 100000 in
theorem mw_118 : tables_1[838]? = some (mW 118) := rfl
set_option maxRecDepth 100000 in
theorem mw_119 : tables_1[936]? = some (mW 119) := rfl
set_option maxRecDepth 100000 in
theorem mw_120 : tables_1[1061]? = some (mW 120) := rfl
set_option maxRecDepth 100000 in
theorem mw_121 : tables_1[1191]? = some (mW 121) := rfl
set_option maxRecDepth 100000 in
theorem mw_122 : tables_1[1199]? = some (mW 122) := rfl
set_option maxRecDepth 100000 in
theorem mw_123 : tables_1[1210]? = some (mW 123) := rfl
set_option maxRecDepth 100000 in
theorem mw_124 : tables_1[1207]? = some (mW 124) := rfl
set_option maxRecDepth 100000 in
theorem mw_125 : tables_1[1272]? = some (mW 125) := rfl
set_option maxRecDepth 100000 in
theorem mw_126 : tables_1[1284]? = some (mW 126) := rfl
set_option maxRecDepth 100000 in
theorem mw_127 : tables_1[1336]? = some (mW 127) := rfl
set_option maxRecDepth 100000 in
theorem mw_128 : tables_1[1244]? = some (mW 128) := rfl
set_option maxRecDepth 100000 in
theorem mw_129 : tables_1[1264]? = some (mW 129) := rfl
set_option maxRecDepth 100000 in
theorem mw_130 : tables_1[1276]? = some (mW 130) := rfl
set_option maxRecDepth 100000 in
theorem mw_131 : tables_1[1324]? = some (mW 131) := rfl
set_option maxRecDepth 100000 in
theorem mw_132 : tables_1[1332]? = some (mW 132) := rfl
set_option maxRecDepth 100000 in
theorem mw_133 : tables_1[1328]? = some (mW 133) := rfl
set_option maxRecDepth 100000 in
theorem mw_134 : tables_1[1340]? = some (mW 134) := rfl
set_option maxRecDepth 100000 in
theorem mw_135 : tables_1[1222]? = some (mW 135) := rfl
set_option maxRecDepth 100000 in
theorem mw_136 : tables_1[1393]? = some (mW 136) := rfl
set_option maxRecDepth 100000 in
theorem mw_137 : tables_1[1389]? = some (mW 137) := rfl
set_option maxRecDepth 100000 in
theorem mw_138 : tables_1[1320]? = some (mW 138) := rfl
set_option maxRecDepth 100000 in
theorem mw_139 : tables_1[1316]? = some (mW 139) := rfl
set_option maxRecDepth 100000 in
theorem mw_140 : tables_1[1195]? = some (mW 140) := rfl
set_option maxRecDepth 100000 in
theorem mw_141 : tables_1[1203]? = some (mW 141) := rfl
set_option maxRecDepth 100000 in
theorem mw_142 : tables_1[1214]? = some (mW 142) := rfl
set_option maxRecDepth 100000 in
theorem mw_143 : tables_1[1218]? = some (mW 143) := rfl
set_option maxRecDepth 100000 in
theorem mw_144 : tables_1[1229]? = some (mW 144) := rfl
set_option maxRecDepth 100000 in
theorem mw_145 : tables_1[1232]? = some (mW 145) := rfl
set_option maxRecDepth 100000 in
theorem mw_146 : tables_1[1226]? = some (mW 146) := rfl
set_option maxRecDepth 100000 in
theorem mw_147 : tables_1[1236]? = some (mW 147) := rfl
set_option maxRecDepth 100000 in
theorem mw_148 : tables_1[1240]? = some (mW 148) := rfl
set_option maxRecDepth 100000 in
theorem mw_149 : tables_1[1248]? = some (mW 149) := rfl
set_option maxRecDepth 100000 in
theorem mw_150 : tables_1[1252]? = some (mW 150) := rfl
set_option maxRecDepth 100000 in
theorem mw_151 : tables_1[1256]? = some (mW 151) := rfl
set_option maxRecDepth 100000 in
theorem mw_152 : tables_1[1260]? = some (mW 152) := rfl
set_option maxRecDepth 100000 in
theorem mw_153 : tables_1[1268]? = some (mW 153) := rfl
set_option maxRecDepth 100000 in
theorem mw_154 : tables_1[1280]? = some (mW 154) := rfl
set_option maxRecDepth 100000 in
theorem mw_155 : tables_1[1288]? = some (mW 155) := rfl
set_option maxRecDepth 100000 in
theorem mw_156 : tables_1[1292]? = some (mW 156) := rfl
set_option maxRecDepth 100000 in
theorem mw_157 : tables_1[1296]? = some (mW 157) := rfl
set_option maxRecDepth 100000 in
theorem mw_158 : tables_1[1300]? = some (mW 158) := rfl
set_option maxRecDepth 100000 in
theorem mw_159 : tables_1[1304]? = some (mW 159) := rfl
set_option maxRecDepth 100000 in
theorem mw_160 : tables_1[1308]? = some (mW 160) := rfl
set_option maxRecDepth 100000 in
theorem mw_161 : tables_1[1312]? = some (mW 161) := rfl
set_option maxRecDepth 100000 in
theorem mw_162 : tables_1[1345]? = some (mW 162) := rfl
set_option maxRecDepth 100000 in
theorem mw_163 : tables_1[1349]? = some (mW 163) := rfl
set_option maxRecDepth 100000 in
theorem mw_164 : tables_1[1353]? = some (mW 164) := rfl
set_option maxRecDepth 100000 in
theorem mw_165 : tables_1[1357]? = some (mW 165) := rfl
set_option maxRecDepth 100000 in
theorem mw_166 : tables_1[1361]? = some (mW 166) := rfl
set_option maxRecDepth 100000 in
theorem mw_167 : tables_1[1365]? = some (mW 167) := rfl
set_option maxRecDepth 100000 in
theorem mw_168 : tables_1[1373]? = some (mW 168) := rfl
set_option maxRecDepth 100000 in
theorem mw_169 : tables_1[1369]? = some (mW 169) := rfl
set_option maxRecDepth 100000 in
theorem mw_170 : tables_1[1377]? = some (mW 170) := rfl
set_option maxRecDepth 100000 in
theorem mw_171 : tables_1[1385]? = some (mW 171) := rfl
set_option maxRecDepth 100000 in
theorem mw_172 : tables_1[1381]? = some (mW 172) := rfl
set_option maxRecDepth 100000 in
theorem mw_173 : tables_1[1398]? = some (mW 173) := rfl
set_option maxRecDepth 100000 in
theorem mw_174 : tables_1[1416]? = some (mW 174) := rfl
set_option maxRecDepth 100000 in
theorem mw_175 : tables_1[1412]? = some (mW 175) := rfl
set_option maxRecDepth 100000 in
theorem mw_176 : tables_1[1420]? = some (mW 176) := rfl
set_option maxRecDepth 100000 in
theorem mw_177 : tables_1[1424]? = some (mW 177) := rfl
set_option maxRecDepth 100000 in
theorem mw_178 : tables_1[1432]? = some (mW 178) := rfl
set_option maxRecDepth 100000 in
theorem mw_179 : tables_1[1428]? = some (mW 179) := rfl
set_option maxRecDepth 100000 in
theorem mw_180 : tables_1[1436]? = some (mW 180) := rfl
set_option maxRecDepth 100000 in
theorem mw_181 : tables_1[1440]? = some (mW 181) := rfl
set_option maxRecDepth 100000 in
theorem mw_182 : tables_1[1444]? = some (mW 182) := rfl
set_option maxRecDepth 100000 in
theorem mw_183 : tables_1[1448]? = some (mW 183) := rfl
set_option maxRecDepth 100000 in
theorem mw_184 : tables_1[1452]? = some (mW 184) := rfl
set_option maxRecDepth 100000 in
theorem mw_185 : tables_1[1456]? = some (mW 185) := rfl
set_option maxRecDepth 100000 in
theorem mw_186 : tables_1[1460]? = some (mW 186) := rfl
set_option maxRecDepth 100000 in
theorem mw_187 : tables_1[1464]? = some (mW 187) := rfl
set_option maxRecDepth 100000 in
theorem mw_188 : tables_1[1468]? = some (mW 188) := rfl
set_option maxRecDepth 100000 in
theorem mw_189 : tables_1[1472]? = some (mW 189) := rfl
set_option maxRecDepth 100000 in
theorem mw_190 : tables_1[1404]? = some (mW 190) := rfl
set_option maxRecDepth 100000 in
theorem mw_191 : tables_1[1401]? = some (mW 191) := rfl
set_option maxRecDepth 100000 in
theorem mw_192 : tables_1[349]? = some (mW 192) := rfl
set_option maxRecDepth 100000 in
theorem mw_193 : tables_1[433]? = some (mW 193) := rfl
set_option maxRecDepth 100000 in
theorem mw_194 : tables_1[513]? = some (mW 194) := rfl
set_option maxRecDepth 100000 in
theorem mw_195 : tables_1[525]? = some (mW 195) := rfl
set_option maxRecDepth 100000 in
theorem mw_196 : tables_1[559]? = some (mW 196) := rfl
set_option maxRecDepth 100000 in
theorem mw_197 : tables_1[575]? = some (mW 197) := rfl
set_option maxRecDepth 100000 in
theorem mw_198 : tables_1[591]? = some (mW 198) := rfl
set_option maxRecDepth 100000 in
theorem mw_199 : tables_1[607]? = some (mW 199) := rfl
set_option maxRecDepth 100000 in
theorem mw_200 : tables_1[614]? = some (mW 200) := rfl
set_option maxRecDepth 100000 in
theorem mw_201 : tables_1[626]? = some (mW 201) := rfl
set_option maxRecDepth 100000 in
theorem mw_202 : tables_1[639]? = some (mW 202) := rfl
set_option maxRecDepth 100000 in
theorem mw_203 : tables_1[681]? = some (mW 203) := rfl
set_option maxRecDepth 100000 in
theorem mw_204 : tables_1[701]? = some (mW 204) := rfl
set_option maxRecDepth 100000 in
theorem mw_205 : tables_1[712]? = some (mW 205) := rfl
set_option maxRecDepth 100000 in
theorem mw_206 : tables_1[723]? = some (mW 206) := rfl
set_option maxRecDepth 100000 in
theorem mw_207 : tables_1[734]? = some (mW 207) := rfl
set_option maxRecDepth 100000 in
theorem mw_208 : tables_1[745]? = some (mW 208) := rfl
set_option maxRecDepth 100000 in
theorem mw_209 : tables_1[756]? = some (mW 209) := rfl
set_option maxRecDepth 100000 in
theorem mw_210 : tables_1[767]? = some (mW 210) := rfl
set_option maxRecDepth 100000 in
theorem mw_211 : tables_1[798]? = some (mW 211) := rfl
set_option maxRecDepth 100000 in
theorem mw_212 : tables_1[806]? = some (mW 212) := rfl
set_option maxRecDepth 100000 in
theorem mw_213 : tables_1[823]? = some (mW 213) := rfl
set_option maxRecDepth 100000 in
theorem mw_214 : tables_1[842]? = some (mW 214) := rfl
set_option maxRecDepth 100000 in
theorem mw_215 : tables_1[859]? = some (mW 215) := rfl
set_option maxRecDepth 100000 in
theorem mw_216 : tables_1[874]? = some (mW 216) := rfl
set_option maxRecDepth 100000 in
theorem mw_217 : tables_1[891]? = some (mW 217) := rfl
set_option maxRecDepth 100000 in
theorem mw_218 : tables_1[913]? = some (mW 218) := rfl
set_option maxRecDepth 100000 in
theorem mw_219 : tables_1[921]? = some (mW 219) := rfl
set_option maxRecDepth 100000 in
theorem mw_220 : tables_1[929]? = some (mW 220) := rfl
set_option maxRecDepth 100000 in
theorem mw_221 : tables_1[941]? = some (mW 221) := rfl
set_option maxRecDepth 100000 in
theorem mw_222 : tables_1[948]? = some (mW 222) := rfl
set_option maxRecDepth 100000 in
theorem mw_223 : tables_1[957]? = some (mW 223) := rfl
set_option maxRecDepth 100000 in
theorem mw_224 : tables_1[967]? = some (mW 224) := rfl
set_option maxRecDepth 100000 in
theorem mw_225 : tables_1[981]? = some (mW 225) := rfl
set_option maxRecDepth 100000 in
theorem mw_226 : tables_1[989]? = some (mW 226) := rfl
set_option maxRecDepth 100000 in
theorem mw_227 : tables_1[998]? = some (mW 227) := rfl
set_option maxRecDepth 100000 in
theorem mw_228 : tables_1[1005]? = some (mW 228) := rfl
set_option maxRecDepth 100000 in
theorem mw_229 : tables_1[1012]? = some (mW 229) := rfl
set_option maxRecDepth 100000 in
theorem mw_230 : tables_1[1023]? = some (mW 230) := rfl
set_option maxRecDepth 100000 in
theorem mw_231 : tables_1[1047]? = some (mW 231) := rfl
def mwB0 : List (Nat × Nat) := [(0, 106), (1, 698), (2, 709), (3, 720), (4, 731), (5, 742), (6, 99), (7, 753), (8, 764), (9, 314), (10, 346), (11, 775), (12, 855), (13, 871), (14, 302), (15, 790), (16, 795), (17, 310), (18, 306), (19, 1020), (20, 819), (21, 1055), (22, 341), (23, 37), (24, 430), (25, 502), (26, 510), (27, 522), (28, 622), (29, 694), (30, 670), (31, 780), (32, 785), (33, 831), (34, 835), (35, 851), (36, 867), (37, 884), (38, 910), (39, 294)]
theorem mwB0_ok : ∀ q ∈ mwB0, tables_1[q.2]? = some (mW q.1) := List.forall_mem_cons.mpr ⟨mw_0, List.forall_mem_cons.mpr ⟨mw_1, List.forall_mem_cons.mpr ⟨mw_2, List.forall_mem_cons.mpr ⟨mw_3, List.forall_mem_cons.mpr ⟨mw_4, List.forall_mem_cons.mpr ⟨mw_5, List.forall_mem_cons.mpr ⟨mw_6, List.forall_mem_cons.mpr ⟨mw_7, List.forall_mem_cons.mpr ⟨mw_8, List.forall_mem_cons.mpr ⟨mw_9, List.forall_mem_cons.mpr ⟨mw_10, List.forall_mem_cons.mpr ⟨mw_11, List.forall_mem_cons.mpr ⟨mw_12, List.forall_mem_cons.mpr ⟨mw_13, List.forall_mem_cons.mpr ⟨mw_14, List.forall_mem_cons.mpr ⟨mw_15, List.forall_mem_cons.mpr ⟨mw_16, List.forall_mem_cons.mpr ⟨mw_17, List.forall_mem_cons.mpr ⟨mw_18, List.forall_mem_cons.mpr ⟨mw_19, List.forall_mem_cons.mpr ⟨mw_20, List.forall_mem_cons.mpr ⟨mw_21, List.forall_mem_cons.mpr ⟨mw_22, List.forall_mem_cons.mpr ⟨mw_23, List.forall_mem_cons.mpr ⟨mw_24, List.forall_mem_cons.mpr ⟨mw_25, List.forall_mem_cons.mpr ⟨mw_26, List.forall_mem_cons.mpr ⟨mw_27, List.forall_mem_cons.mpr ⟨mw_28, List.forall_mem_cons.mpr ⟨mw_29, List.forall_mem_cons.mpr ⟨mw_30, List.forall_mem_cons.mpr ⟨mw_31, List.forall_mem_cons.mpr ⟨mw_32, List.forall_mem_cons.mpr ⟨mw_33, List.forall_mem_cons.mpr ⟨mw_34, List.forall_mem_cons.mpr ⟨mw_35, List.forall_mem_cons.mpr ⟨mw_36, List.forall_mem_cons.mpr ⟨mw_37, List.forall_mem_cons.mpr ⟨mw_38, List.forall_mem_cons.mpr ⟨mw_39, fun _ h => absurd h List.not_mem_nil⟩⟩⟩⟩⟩⟩⟩⟩⟩⟩⟩⟩⟩⟩⟩⟩⟩⟩⟩⟩⟩⟩⟩⟩⟩⟩⟩⟩⟩⟩⟩⟩⟩⟩⟩⟩⟩⟩⟩⟩
def mwB1 : List (Nat × Nat) := [(40, 290), (41, 286), (42, 279), (43, 183), (44, 888), (45, 324), (46, 332), (47, 64), (48, 298), (49, 604), (50, 636), (51, 267), (52, 674), (53, 85), (54, 328), (55, 556), (56, 45), (57, 572), (58, 588), (59, 318), (60, 29), (61, 354), (62, 462), (63, 517), (64, 530), (65, 563), (66, 579), (67, 595), (68, 611), (69, 618), (70, 630), (71, 263), (72, 644), (73, 685), (74, 705), (75, 716), (76, 727), (77, 738), (78, 749), (79, 760)]
theorem mwB1_ok : ∀ q ∈ mwB1, tables_1[q.2]? = some (mW q.1) := List.forall_mem_cons.mpr ⟨mw_40, List.forall_mem_cons.mpr ⟨mw_41, List.forall_mem_cons.mpr ⟨mw_42, List.forall_mem_cons.mpr ⟨mw_43, List.forall_mem_cons.mpr ⟨mw_44, List.forall_mem_cons.mpr ⟨mw_45, List.forall_mem_cons.mpr ⟨mw_46, List.forall_mem_cons.mpr ⟨mw_47, List.forall_mem_cons.mpr ⟨mw_48, List.forall_mem_cons.mpr ⟨mw_49, List.forall_mem_cons.mpr ⟨mw_50, List.forall_mem_cons.mpr ⟨mw_51, List.forall_mem_cons.mpr ⟨mw_52, List.forall_mem_cons.mpr ⟨mw_53, List.forall_mem_cons.mpr ⟨mw_54, List.forall_mem_cons.mpr ⟨mw_55, List.forall_mem_cons.mpr ⟨mw_56, List.forall_mem_cons.mpr ⟨mw_57, List.forall_mem_cons.mpr ⟨mw_58, List.forall_mem_cons.mpr ⟨mw_59, List.forall_mem_cons.mpr ⟨mw_60, List.forall_mem_cons.mpr ⟨mw_61, List.forall_mem_cons.mpr ⟨mw_62, List.forall_mem_cons.mpr ⟨mw_63, List.forall_mem_cons.mpr ⟨mw_64, List.forall_mem_cons.mpr ⟨mw_65, List.forall_mem_cons.mpr ⟨mw_66, List.forall_mem_cons.mpr ⟨mw_67, List.forall_mem_cons.mpr ⟨mw_68, List.forall_mem_cons.mpr ⟨mw_69, List.forall_mem_cons.mpr ⟨mw_70, List.forall_mem_cons.mpr ⟨mw_71, List.forall_mem_cons.mpr ⟨mw_72, List.forall_mem_cons.mpr ⟨mw_73, List.forall_mem_cons.mpr ⟨mw_74, List.forall_mem_cons.mpr ⟨mw_75, List.forall_mem_cons.mpr ⟨mw_76, List.forall_mem_cons.mpr ⟨mw_77, List.forall_mem_cons.mpr ⟨mw_78, List.forall_mem_cons.mpr ⟨mw_79, fun _ h => absurd h List.not_mem_nil⟩⟩⟩⟩⟩⟩⟩⟩⟩⟩⟩⟩⟩⟩⟩⟩⟩⟩⟩⟩⟩⟩⟩⟩⟩⟩⟩⟩⟩⟩⟩⟩⟩⟩⟩⟩⟩⟩⟩⟩
def mwB2 : List (Nat × Nat) := [(80, 771), (81, 802), (82, 810), (83, 827), (84, 846), (85, 863), (86, 878), (87, 895), (88, 917), (89, 925), (90, 933), (91, 945), (92, 952), (93, 961), (94, 971), (95, 985), (96, 993), (97, 1002), (98, 1009), (99, 1016), (100, 271), (101, 275), (102, 1041), (103, 1051), (104, 337), (105, 906), (106, 466), (107, 567), (108, 599), (109, 534), (110, 583), (111, 899), (112, 648), (113, 689), (114, 814), (115, 975), (116, 482), (117, 282), (118, 838), (119, 936)]
theorem mwB2_ok : ∀ q ∈ mwB2, tables_1[q.2]? = some (mW q.1) := List.forall_mem_cons.mpr ⟨mw_80, List.forall_mem_cons.mpr ⟨mw_81, List.forall_mem_cons.mpr ⟨mw_82, List.forall_mem_cons.mpr ⟨mw_83, List.forall_mem_cons.mpr ⟨mw_84, List.forall_mem_cons.mpr ⟨mw_85, List.forall_mem_cons.mpr ⟨mw_86, List.forall_mem_cons.mpr ⟨mw_87, List.forall_mem_cons.mpr ⟨mw_88, List.forall_mem_cons.mpr ⟨mw_89, List.forall_mem_cons.mpr ⟨mw_90, List.forall_mem_cons.mpr ⟨mw_91, List.forall_mem_cons.mpr ⟨mw_92, List.forall_mem_cons.mpr ⟨mw_93, List.forall_mem_cons.mpr ⟨mw_94, List.forall_mem_cons.mpr ⟨mw_95, List.forall_mem_cons.mpr ⟨mw_96, List.forall_mem_cons.mpr ⟨mw_97, List.forall_mem_cons.mpr ⟨mw_98, List.forall_mem_cons.mpr ⟨mw_99, List.forall_mem_cons.mpr ⟨mw_100, List.forall_mem_cons.mpr ⟨mw_101, List.forall_mem_cons.mpr ⟨mw_102, List.forall_mem_cons.mpr ⟨mw_103, List.forall_mem_cons.mpr ⟨mw_104, List.forall_mem_cons.mpr ⟨mw_105, List.forall_mem_cons.mpr ⟨mw_106, List.forall_mem_cons.mpr ⟨mw_107, List.forall_mem_cons.mpr ⟨mw_108, List.forall_mem_cons.mpr ⟨mw_109, List.forall_mem_cons.mpr ⟨mw_110, List.forall_mem_cons.mpr ⟨mw_111, List.forall_mem_cons.mpr ⟨mw_112, List.forall_mem_cons.mpr ⟨mw_113, List.forall_mem_cons.mpr ⟨mw_114, List.forall_mem_cons.mpr ⟨mw_115, List.forall_mem_cons.mpr ⟨mw_116, List.forall_mem_cons.mpr ⟨mw_117, List.forall_mem_cons.mpr ⟨mw_118, List.forall_mem_cons.mpr ⟨mw_119, fun _ h => absurd h List.not_mem_nil⟩⟩⟩⟩⟩⟩⟩⟩⟩⟩⟩⟩⟩⟩⟩⟩⟩⟩⟩⟩⟩⟩⟩⟩⟩⟩⟩⟩⟩⟩⟩⟩⟩⟩⟩⟩⟩⟩⟩⟩
def mwB3 : List (Nat × Nat) := [(120, 1061), (121, 1191), (122, 1199), (123, 1210), (124, 1207), (125, 1272), (126, 1284), (127, 1336), (128, 1244), (129, 1264), (130, 1276), (131, 1324), (132, 1332), (133, 1328), (134, 1340), (135, 1222), (136, 1393), (137, 1389), (138, 1320), (139, 1316), (140, 1195), (141, 1203), (142, 1214), (143, 1218), (144, 1229), (145, 1232), (146, 1226), (147, 1236), (148, 1240), (149, 1248), (150, 1252), (151, 1256), (152, 1260), (153, 1268), (154, 1280), (155, 1288), (156, 1292), (157, 1296), (158, 1300), (159, 1304)]
theorem mwB3_ok : ∀ q ∈ mwB3, tables_1[q.2]? = some (mW q.1) := List.forall_mem_cons.mpr ⟨mw_120, List.forall_mem_cons.mpr ⟨mw_121, List.forall_mem_cons.mpr ⟨mw_122, List.forall_mem_cons.mpr ⟨mw_123, List.forall_mem_cons.mpr ⟨mw_124, List.forall_mem_cons.mpr ⟨mw_125, List.forall_mem_cons.mpr ⟨mw_126, List.forall_mem_cons.mpr ⟨mw_127, List.forall_mem_cons.mpr ⟨mw_128, List.forall_mem_cons.mpr ⟨mw_129, List.forall_mem_cons.mpr ⟨mw_130, List.forall_mem_cons.mpr ⟨mw_131, List.forall_mem_cons.mpr ⟨mw_132, List.forall_mem_cons.mpr ⟨mw_133, List.forall_mem_cons.mpr ⟨mw_134, List.forall_mem_cons.mpr ⟨mw_135, List.forall_mem_cons.mpr ⟨mw_136, List.forall_mem_cons.mpr ⟨mw_137, List.forall_mem_cons.mpr ⟨mw_138, List.forall_mem_cons.mpr ⟨mw_139, List.forall_mem_cons.mpr ⟨mw_140, List.forall_mem_cons.mpr ⟨mw_141, List.forall_mem_cons.mpr ⟨mw_142, List.forall_mem_cons.mpr ⟨mw_143, List.forall_mem_cons.mpr ⟨mw_144, List.forall_mem_cons.mpr ⟨mw_145, List.forall_mem_cons.mpr ⟨mw_146, List.forall_mem_cons.mpr ⟨mw_147, List.forall_mem_cons.mpr ⟨mw_148, List.forall_mem_cons.mpr ⟨mw_149, List.forall_mem_cons.mpr ⟨mw_150, List.forall_mem_cons.mpr ⟨mw_151, List.forall_mem_cons.mpr ⟨mw_152, List.forall_mem_cons.mpr ⟨mw_153, List.forall_mem_cons.mpr ⟨mw_154, List.forall_mem_cons.mpr ⟨mw_155, List.forall_mem_cons.mpr ⟨mw_156, List.forall_mem_cons.mpr ⟨mw_157, List.forall_mem_cons.mpr ⟨mw_158, List.forall_mem_cons.mpr ⟨mw_159, fun _ h => absurd h List.not_mem_nil⟩⟩⟩⟩⟩⟩⟩⟩⟩⟩⟩⟩⟩⟩⟩⟩⟩⟩⟩⟩⟩⟩⟩⟩⟩⟩⟩⟩⟩⟩⟩⟩⟩⟩⟩⟩⟩⟩⟩⟩
def mwB4 : List (Nat × Nat) := [(160, 1308), (161, 1312), (162, 1345), (163, 1349), (164, 1353), (165, 1357), (166, 1361), (167, 1365), (168, 1373), (169, 1369), (170, 1377), (171, 1385), (172, 1381), (173, 1398), (174, 1416), (175, 1412), (176, 1420), (177, 1424), (178, 1432), (179, 1428), (180, 1436), (181, 1440), (182, 1444), (183, 1448), (184, 1452), (185, 1456), (186, 1460), (187, 1464), (188, 1468), (189, 1472), (190, 1404), (191, 1401), (192, 349), (193, 433), (194, 513), (195, 525), (196, 559), (197, 575), (198, 591), (199, 607)]
theorem mwB4_ok : ∀ q ∈ mwB4, tables_1[q.2]? = some (mW q.1) := List.forall_mem_cons.mpr ⟨mw_160, List.forall_mem_cons.mpr ⟨mw_161, List.forall_mem_cons.mpr ⟨mw_162, List.forall_mem_cons.mpr ⟨mw_163, List.forall_mem_cons.mpr ⟨mw_164, List.forall_mem_cons.mpr ⟨mw_165, List.forall_mem_cons.mpr ⟨mw_166, List.forall_mem_cons.mpr ⟨mw_167, List.forall_mem_cons.mpr ⟨mw_168, List.forall_mem_cons.mpr ⟨mw_169, List.forall_mem_cons.mpr ⟨mw_170, List.forall_mem_cons.mpr ⟨mw_171, List.forall_mem_cons.mpr ⟨mw_172, List.forall_mem_cons.mpr ⟨mw_173, List.forall_mem_cons.mpr ⟨mw_174, List.forall_mem_cons.mpr ⟨mw_175, List.forall_mem_cons.mpr ⟨mw_176, List.forall_mem_cons.mpr ⟨mw_177, List.forall_mem_cons.mpr ⟨mw_178, List.forall_mem_cons.mpr ⟨mw_179, List.forall_mem_cons.mpr ⟨mw_180, List.forall_mem_cons.mpr ⟨mw_181, List.forall_mem_cons.mpr ⟨mw_182, List.forall_mem_cons.mpr ⟨mw_183, List.forall_mem_cons.mpr ⟨mw_184, List.forall_mem_cons.mpr ⟨mw_185, List.forall_mem_cons.mpr ⟨mw_186, List.forall_mem_cons.mpr ⟨mw_187, List.forall_mem_cons.mpr ⟨mw_188, List.forall_mem_cons.mpr ⟨mw_189, List.forall_mem_cons.mpr ⟨mw_190, List.forall_mem_cons.mpr ⟨mw_191, List.forall_mem_cons.mpr ⟨mw_192, List.forall_mem_cons.mpr ⟨mw_193, List.forall_mem_cons.mpr ⟨mw_194, List.forall_mem_cons.mpr ⟨mw_195, List.forall_mem_cons.mpr ⟨mw_196, List.forall_mem_cons.mpr ⟨mw_197, List.forall_mem_cons.mpr ⟨mw_198, List.forall_mem_cons.mpr ⟨mw_199, fun _ h => absurd h List.not_mem_nil⟩⟩⟩⟩⟩⟩⟩⟩⟩⟩⟩⟩⟩⟩⟩⟩⟩⟩⟩⟩⟩⟩⟩⟩⟩⟩⟩⟩⟩⟩⟩⟩⟩⟩⟩⟩⟩⟩⟩⟩
def mwB5 : List (Nat × Nat) := [(200, 614), (201, 626), (202, 639), (203, 681), (204, 701), (205, 712), (206, 723), (207, 734), (208, 745), (209, 756), (210, 767), (211, 798), (212, 806), (213, 823), (214, 842), (215, 859), (216, 874), (217, 891), (218, 913), (219, 921), (220, 929), (221, 941), (222, 948), (223, 957), (224, 967), (225, 981), (226, 989), (227, 998), (228, 1005), (229, 1012), (230, 1023), (231, 1047)]
theorem mwB5_ok : ∀ q ∈ mwB5, tables_1[q.2]? = some (mW q.1) := List.forall_mem_cons.mpr ⟨mw_200, List.forall_mem_cons.mpr ⟨mw_201, List.forall_mem_cons.mpr ⟨mw_202, List.forall_mem_cons.mpr ⟨mw_203, List.forall_mem_cons.mpr ⟨mw_204, List.forall_mem_cons.mpr ⟨mw_205, List.forall_mem_cons.mpr ⟨mw_206, List.forall_mem_cons.mpr ⟨mw_207, List.forall_mem_cons.mpr ⟨mw_208, List.forall_mem_cons.mpr ⟨mw_209, List.forall_mem_cons.mpr ⟨mw_210, List.forall_mem_cons.mpr ⟨mw_211, List.forall_mem_cons.mpr ⟨mw_212, List.forall_mem_cons.mpr ⟨mw_213, List.forall_mem_cons.mpr ⟨mw_214, List.forall_mem_cons.mpr ⟨mw_215, List.forall_mem_cons.mpr ⟨mw_216, List.forall_mem_cons.mpr ⟨mw_217, List.forall_mem_cons.mpr ⟨mw_218, List.forall_mem_cons.mpr ⟨mw_219, List.forall_mem_cons.mpr ⟨mw_220, List.forall_mem_cons.mpr ⟨mw_221, List.forall_mem_cons.mpr ⟨mw_222, List.forall_mem_cons.mpr ⟨mw_223, List.forall_mem_cons.mpr ⟨mw_224, List.forall_mem_cons.mpr ⟨mw_225, List.forall_mem_cons.mpr ⟨mw_226, List.forall_mem_cons.mpr ⟨mw_227, List.forall_mem_cons.mpr ⟨mw_228, List.forall_mem_cons.mpr ⟨mw_229, List.forall_mem_cons.mpr ⟨mw_230, List.forall_mem_cons.mpr ⟨mw_231, fun _ h => absurd h List.not_mem_nil⟩⟩⟩⟩⟩⟩⟩⟩⟩⟩⟩⟩⟩⟩⟩⟩⟩⟩⟩⟩⟩⟩⟩⟩⟩⟩⟩⟩⟩⟩⟩⟩
def mwA : List (Nat × Nat) := mwB0 ++ (mwB1 ++ (mwB2 ++ (mwB3 ++ (mwB4 ++ (mwB5)))))
theorem mwA_ok : ∀ q ∈ mwA, tables_1[q.2]? = some (mW q.1) := List.forall_mem_append.mpr ⟨mwB0_ok, List.forall_mem_append.mpr ⟨mwB1_ok, List.forall_mem_append.mpr ⟨mwB2_ok, List.forall_mem_append.mpr ⟨mwB3_ok, List.forall_mem_append.mpr ⟨mwB4_ok, mwB5_ok⟩⟩⟩⟩⟩
theorem mwA_all : ∀ k, k < 232 → (k, mwA.lookup k) ∈ mwA.map (fun q => (q.1, some q.2)) := by decide +kernel
theorem meth_good (k : Nat) : goodWord (mW k) = true := by
  unfold mW
  cases mH k <;> rfl
theorem meth_tab : ∀ k, k < 232 → mW k ∈ TW := by
  intro k hk
  obtain ⟨q, hq, he⟩ := List.mem_map.mp (mwA_all k hk)
  have h1 : q.1 = k := congrArg Prod.fst he
  have := mwA_ok q hq
  rw [h1] at this
  exact TW_in (List.mem_of_getElem? this) (meth_good k)
theorem meth_ok2 : ∀ k, k < 233 → (mY k).cls ≠ "java/lang/invoke/MethodHandle" ∧ (mY k).cls ≠ "java/lang/invoke/VarHandle" := by decide +kernel
theorem meth_ok3 : ∀ k, k < 233 → (parseMethodDescriptor (mY k).desc).map (fun d => d.parameters.length) = some (mA k) := by decide +kernel
theorem meth_ok4 : ∀ k, k < 233 → (mY k).cls = ownN (mO k) ∧ mO k < 11 := by decide +kernel
theorem own_plain : ∀ o, o < 10 → plainName (ownN o) = true := by
  intro o h
  rcases o with _ | _ | _ | _ | _ | _ | _ | _ | _ | _ | o
  · show plainName RX0 = true; decide
  · show plainName RX1 = true; decide
  · show plainName RX2 = true; decide
  · show plainName RX3 = true; decide
  · show plainName RX4 = true; decide
  · show plainName RX5 = true; decide
  · show plainName RX6 = true; decide
  · show plainName RX7 = true; decide
  · show plainName RX8 = true; decide
  · show plainName RL = true; decide
  · omega
theorem float_plain : plainFor yJxf58ca_isNaN_12338 = true ∧ plainFor yJxf58ca_floatToIntBits_5c35a = true := by decide +kernel
theorem meth_ok5 : ∀ k, k < 233 → mO k = 10 → mY k = yJxf58ca_isNaN_12338 ∨ mY k = yJxf58ca_floatToIntBits_5c35a := by decide +kernel
theorem meth_ok1 (k : Nat) (h : k < 233) : plainFor (mY k) = true := by
  by_cases h10 : mO k < 10
  · refine plainFor_of_name ?_
    rw [(meth_ok4 k h).1]
    exact own_plain _ h10
  · have h11 : mO k = 10 := by have := (meth_ok4 k h).2; omega
    rcases meth_ok5 k h h11 with e | e
    · rw [e]; exact float_plain.1
    · rw [e]; exact float_plain.2
theorem law_last : kL_law = 232 := rfl
/-- the words that a call needs beside its code's -/
def calWs (o x kd k' : Nat) : List Cond := match kd with
  | 0 => [.methodLink (ownN o) x (mY k'), .instanceMethod (mY k'), .initialized (mY k').cls]
  | 1 => [.methodLink (ownN o) x (mY k'), .static (mY k'), .initialized (mY k').cls]
  | 2 => [.methodLink (ownN o) x (mY k'), .static (mY k'), .initialized (mY k').cls]
  | 3 => [.methodLink (ownN o) x (mY k'), .instanceMethod (mY k'), .initialized (mY k').cls]
  | 4 => [.instanceMethod (mY k'), .initialized (mY k').cls]
  | 5 => [.static (mY k'), .initialized (mY k').cls]
  | 6 => [.methodLink (ownN o) x objectInit, .instanceMethod objectInit, .code objectInit ⟨#[0xb1]⟩ 1 none]
  | 7 => [.methodLink (ownN o) x Lib.Math.abs.name, .static Lib.Math.abs.name, .initialized "java/lang/Math", .code Lib.Math.abs.name Lib.Math.abs.code 1 (some .int)]
  | 8 => [.methodLink (ownN o) x arraycopyName, .native arraycopyName, .static arraycopyName, .initialized "java/lang/System"]
  | 9 => [.methodLink (ownN o) x ⟨"java/lang/Float", "floatToRawIntBits", "(F)I"⟩, .native ⟨"java/lang/Float", "floatToRawIntBits", "(F)I"⟩, .static ⟨"java/lang/Float", "floatToRawIntBits", "(F)I"⟩, .initialized "java/lang/Float"]
  | _ => []
def calPl (kd k' : Nat) : Bool := match kd with
  | 0 => decide (mH k' = [])
  | 1 => decide (mH k' = [])
  | 2 => decide (mH k' ≠ [])
  | 3 => decide (mH k' = []) && (decide ((mY k').name = "<init>") && decide (mR k' = none))
  | 4 => decide (mH k' = []) && (decide ((mY k').name = "<init>") && decide (mR k' = none))
  | 5 => decide (mH k' = [])
  | _ => true
def calI : List (List (List Nat)) := [[[107, 31, 32], [109, 63, 4]], [[100, 31, 32], [105, 7], [311, 312, 6], [856, 773, 6], [315, 316, 3], [307, 308, 6], [820, 300, 6], [342, 296, 4], [343, 344, 6]], [[38, 31, 32], [44, 3], [62, 63, 4], [84, 5], [97, 98, 6], [182, 8], [503, 504, 18, 505], [281, 1], [623, 602, 4], [671, 672, 4], [678, 265, 4], [781, 773, 6], [782, 783, 2], [786, 312, 6], [787, 788, 6], [299, 300, 6], [791, 308, 6], [287, 288, 2], [792, 793, 6], [295, 296, 4], [832, 834, 2], [837, 1], [839, 586, 3], [852, 853, 6], [868, 869, 6], [321, 322, 8], [303, 304, 6], [291, 292, 2], [320, 316, 3], [325, 326, 5], [329, 330, 8], [283, 284, 2]], [[184, 31, 32]], [[65, 31, 32], [675, 677, 676, 21]], [[86, 31, 32]], [[46, 31, 32]], [[30, 31, 32], [35, 36, 2], [427, 428, 2], [463, 465, 1], [480, 481, 1], [499, 500, 2], [507, 508, 2], [519, 520, 2], [531, 533, 1], [551, 326, 5], [553, 554, 5], [564, 566, 1], [569, 570, 3], [580, 582, 1], [585, 586, 3], [596, 598, 1], [600, 281, 1], [601, 602, 4], [619, 620, 2], [631, 296, 4], [633, 634, 4], [264, 265, 4], [645, 647, 1], [667, 668, 2], [686, 688, 1], [691, 692, 2], [695, 696, 7], [706, 707, 7], [717, 718, 7], [728, 729, 7], [739, 740, 7], [750, 751, 6], [761, 762, 6], [772, 773, 6], [777, 778, 2], [803, 783, 2], [811, 813, 1], [816, 817, 6], [828, 829, 2], [848, 849, 2], [864, 865, 2], [881, 882, 2], [885, 886, 8], [896, 898, 1], [901, 322, 8], [903, 905, 1], [926, 284, 2], [934, 935, 1], [276, 277, 2], [953, 292, 2], [962, 300, 6], [964, 308, 6], [972, 974, 1], [978, 316, 3], [986, 312, 6], [994, 837, 1], [1017, 1018, 6], [1052, 1053, 6], [338, 339, 6], [907, 908, 2], [976, 344, 6]], [[1062, 31, 32], [1208, 1209, 9], [1269, 1271, 9], [1273, 1275, 9], [1321, 1323, 9], [1329, 1331, 9], [1333, 1335, 9], [1325, 1327, 9], [1337, 1339, 9], [1219, 1221, 9], [1390, 1392, 9], [1196, 1198, 9], [1204, 1206, 9], [1227, 1228, 9], [1230, 1231, 9], [1241, 1243, 9], [1261, 1263, 9], [1281, 1283, 9], [1313, 1315, 9], [1317, 1319, 9], [1370, 1372, 9], [1382, 1384, 9], [1386, 1388, 9], [1399, 1400, 23], [1413, 1415, 9], [1429, 1431, 9]], [[351, 352, 1], [459, 460, 1], [514, 515, 1], [527, 528, 1], [560, 561, 1], [576, 577, 1], [592, 593, 1], [608, 609, 1], [615, 616, 1], [627, 628, 1], [641, 642, 1], [682, 683, 1], [702, 703, 1], [713, 714, 1], [724, 725, 1], [735, 736, 1], [746, 747, 1], [757, 758, 1], [768, 769, 1], [799, 800, 1], [807, 808, 1], [824, 825, 1], [843, 844, 1], [860, 861, 1], [875, 876, 1], [892, 893, 1], [914, 915, 1], [922, 923, 1], [930, 931, 1], [942, 943, 1], [949, 950, 1], [958, 959, 1], [968, 969, 1], [982, 983, 1], [990, 991, 1], [999, 1000, 1], [1006, 1007, 1], [1013, 1014, 1], [1038, 1039, 1], [1048, 1049, 1], [27, 28, 1], [1059, 1060, 9], [347, 348, 0], [1192, 1193, 9], [1188, 1189, 9], [431, 432, 0], [1200, 1201, 9], [511, 512, 0], [1211, 1212, 9], [523, 524, 0], [1215, 1216, 9], [557, 558, 0], [1223, 1224, 9], [573, 574, 0], [1233, 1234, 9], [589, 590, 0], [1237, 1238, 9], [605, 606, 0], [1245, 1246, 9], [612, 613, 0], [1249, 1250, 9], [624, 625, 0], [1253, 1254, 9], [260, 261, 1], [1257, 1258, 9], [637, 638, 0], [1265, 1266, 9], [679, 680, 0], [1277, 1278, 9], [699, 700, 0], [1285, 1286, 9], [710, 711, 0], [1289, 1290, 9], [721, 722, 0], [1293, 1294, 9], [732, 733, 0], [1297, 1298, 9], [743, 744, 0], [1301, 1302, 9], [754, 755, 0], [1305, 1306, 9], [765, 766, 0], [1309, 1310, 9], [796, 797, 0], [1342, 1343, 9], [804, 805, 0], [1346, 1347, 9], [821, 822, 0], [1350, 1351, 9], [840, 841, 0], [1354, 1355, 9], [857, 858, 0], [1358, 1359, 9], [872, 873, 0], [1362, 1363, 9], [889, 890, 0], [1366, 1367, 9], [911, 912, 0], [1374, 1375, 9], [919, 920, 0], [1378, 1379, 9], [927, 928, 0], [1395, 1396, 9], [939, 940, 0], [1409, 1410, 9], [946, 947, 0], [1417, 1418, 9], [955, 956, 0], [1421, 1422, 9], [965, 966, 0], [1425, 1426, 9], [979, 980, 0], [1433, 1434, 9], [987, 988, 0], [1437, 1438, 9], [996, 997, 0], [1441, 1442, 9], [1003, 1004, 0], [1445, 1446, 9], [1010, 1011, 0], [1449, 1450, 9], [268, 269, 1], [1453, 1454, 9], [272, 273, 1], [1457, 1458, 9], [1021, 1022, 0], [1461, 1462, 9], [1045, 1046, 0], [1465, 1466, 9], [334, 335, 1], [1469, 1470, 9]], [[1402, 1403, 23], [1405, 1407, 1406, 23]]]
set_option maxRecDepth 100000 in
set_option maxHeartbeats 4000000 in
theorem cal_tab : ∀ o, o < 11 → (calT.getD o []).length ≤ (calI.getD o []).length ∧ ∀ q ∈ (calT.getD o []).zip (calI.getD o []), calPl q.1.2.1 q.1.2.2 = true ∧ atP (calWs o q.1.1 q.1.2.1 q.1.2.2) q.2 = true := by decide +kernel
def selI : List (List Nat) := [[0, 0], [0, 0, 347, 808, 351, 343, 335, 331, 379], [0, 0, 0, 0, 0, 0, 0, 0, 637, 707, 300, 808, 818, 347, 823, 335, 343, 323, 828, 331, 9, 0, 621, 888, 904, 357, 339, 327, 351, 361, 365, 319], [0], [0, 0], [0], [0], [0, 0, 463, 1, 0, 535, 543, 555, 2, 361, 589, 3, 605, 4, 621, 5, 0, 637, 655, 331, 669, 300, 6, 703, 7, 727, 731, 742, 753, 764, 775, 786, 797, 808, 813, 818, 8, 852, 864, 884, 900, 917, 921, 10, 357, 11, 319, 0, 312, 327, 335, 343, 12, 351, 347, 0, 1053, 1088, 374, 943, 379], [0, 0, 18, 19, 23, 25, 26, 24, 27, 15, 31, 13, 14, 0, 0, 16, 17, 20, 21, 22, 28, 29, 30, 0, 32, 33], [387, 495, 550, 563, 596, 612, 628, 644, 651, 663, 677, 718, 738, 749, 760, 771, 782, 793, 804, 835, 843, 860, 879, 896, 911, 928, 950, 958, 966, 978, 985, 994, 1004, 1018, 1026, 1035, 1042, 1049, 1074, 1084, 0, 0, 0, 1228, 1224, 0, 1236, 0, 1247, 0, 1251, 0, 1259, 0, 1269, 0, 1273, 0, 1281, 0, 1285, 0, 1289, 296, 1293, 0, 1301, 0, 1313, 0, 1321, 0, 1325, 0, 1329, 0, 1333, 0, 1337, 0, 1341, 0, 1345, 0, 1378, 0, 1382, 0, 1386, 0, 1390, 0, 1394, 0, 1398, 0, 1402, 0, 1410, 0, 1414, 0, 1431, 0, 1445, 0, 1453, 0, 1457, 0, 1461, 0, 1469, 0, 1473, 0, 1477, 0, 1481, 0, 1485, 304, 1489, 308, 1493, 0, 1497, 0, 1501, 370, 1505], [0, 0]]
set_option maxRecDepth 100000 in
theorem cal_sel : ∀ o, o < 11 → (calT.getD o []).length ≤ (selI.getD o []).length ∧ ∀ q ∈ (calT.getD o []).zip (selI.getD o []), q.1.2.1 = 0 → lw_tbl[q.2]? = some (Cond.selects (mY q.1.2.2).cls (mY q.1.2.2) (mY q.1.2.2)) := by decide +kernel
def nestI : List (List Nat) := [[0, 0], [0, 104, 0, 0, 0, 0, 0, 0, 0], [0, 43, 0, 83, 0, 181, 0, 280, 0, 0, 0, 0, 0, 0, 0, 0, 0, 0, 0, 0, 0, 836, 0, 0, 0, 0, 0, 0, 0, 0, 0, 0], [0], [0, 0], [0], [0], [0, 0, 0, 0, 0, 0, 0, 0, 0, 0, 0, 0, 0, 0, 0, 0, 0, 0, 0, 0, 0, 0, 0, 0, 0, 0, 0, 0, 0, 0, 0, 0, 0, 0, 0, 0, 0, 0, 0, 0, 0, 0, 0, 0, 0, 0, 0, 0, 0, 0, 0, 0, 0, 0, 0, 0, 0, 0, 0, 0, 0], [0, 0, 0, 0, 0, 0, 0, 0, 0, 0, 0, 0, 0, 0, 0, 0, 0, 0, 0, 0, 0, 0, 0, 0, 0, 0], [0, 0, 0, 0, 0, 0, 0, 0, 0, 0, 0, 0, 0, 0, 0, 0, 0, 0, 0, 0, 0, 0, 0, 0, 0, 0, 0, 0, 0, 0, 0, 0, 0, 0, 0, 0, 0, 0, 0, 0, 0, 0, 0, 0, 0, 0, 0, 0, 0, 0, 0, 0, 0, 0, 0, 0, 0, 0, 0, 0, 0, 0, 0, 0, 0, 0, 0, 0, 0, 0, 0, 0, 0, 0, 0, 0, 0, 0, 0, 0, 0, 0, 0, 0, 0, 0, 0, 0, 0, 0, 0, 0, 0, 0, 0, 0, 0, 0, 0, 0, 0, 0, 0, 0, 0, 0, 0, 0, 0, 0, 0, 0, 0, 0, 0, 0, 0, 0, 0, 0, 0, 0, 0, 0, 0, 0, 0, 0, 0, 0, 0], [0, 0]]
set_option maxRecDepth 100000 in
theorem cal_nest : ∀ o, o < 11 → (calT.getD o []).length ≤ (nestI.getD o []).length ∧ ∀ q ∈ (calT.getD o []).zip (nestI.getD o []), (q.1.2.1 = 4 ∨ q.1.2.1 = 5) → tables_1[q.2]? = some (Cond.methodLinkNest (ownN o) q.1.1 (mY q.1.2.2) "Lampboard") := by decide +kernel
def excN (e : Nat) : String := excT.getD e ""
def newWs (o x kd ci : Nat) : List Cond := match kd with
  | 0 => [.classLink (ownN o) x (rF ci)]
  | _ => [.classLink (ownN o) x (excN ci), .initialized (excN ci)]
def newI : List (List (List Nat)) := [[[108]], [[101]], [[39], [41], [60], [78], [80]], [], [], [], [], [[33], [355, 13], [535, 19], [650, 20], [483, 17], [1042, 24], [467, 14]], [], [[25], [350, 13], [434, 14], [458, 17], [526, 19], [640, 20], [1024, 24], [1057]], []]
set_option maxRecDepth 100000 in
theorem new_tab : ∀ o, o < 11 → (newT.getD o []).length ≤ (newI.getD o []).length ∧ ∀ q ∈ (newT.getD o []).zip (newI.getD o []), (q.1.2.1 = 0 → q.1.2.2 < 9) ∧ (q.1.2.1 = 1 → q.1.2.2 < 6) ∧ atP (newWs o q.1.1 q.1.2.1 q.1.2.2) q.2 = true := by decide +kernel
def ldcW (o x : Nat) : Value → List Cond
  | .float v => [.constantFloat (ownN o) x v]
  | .double v => [.constantDouble (ownN o) x v]
  | .int v => [.constant (ownN o) x v]
  | _ => []
def ldI : List (List Nat) := [[], [319], [333], [], [], [], [], [937, 938], [1341, 1394], [], [1408]]
theorem ldc_tab : ∀ o, o < 11 → (ldcT.getD o []).length ≤ (ldI.getD o []).length ∧ ∀ q ∈ (ldcT.getD o []).zip (ldI.getD o []), atP (ldcW o q.1.1 q.1.2) [q.2] = true := by decide +kernel
def strI : List Nat := [400, 506, 518, 552, 568, 632, 659, 666, 776, 847, 879, 880, 902, 918, 954, 963, 995, 815, 1043, 1056, 476, 544, 584, 900, 649, 690, 977, 492]
theorem str_tab : (strT.getD 7 []).length ≤ strI.length ∧ ∀ q ∈ (strT.getD 7 []).zip strI, tables_1[q.2]? = some (Cond.stringRef RX7 q.1.1 q.1.2) := by decide +kernel
theorem arr_tab : atP [.arrayClass .int, .arrayClass .float, .arrayClass .boolean, .arrayClass .long, .arrayClass .double] [59, 140, 1187, 1473, 1474] = true := by decide +kernel
theorem over_tab : ([RX5, RX1, RX3, RX0].zip [40, 79, 81, 102]).all (fun q => decide (tables_1[q.2]? = some (Cond.arrayOver (.object q.1)))) = true := by decide +kernel
