section
variable {a0 a1 a2 a3 a4 a5 a6 a7 a8 : Value} {st : List Value} {bc bs : Nat} {hp : Hp} {Q : Out → Hp → Prop}
set_option maxRecDepth 100000 in
theorem sL_law_1150 {x y : Int32} : Go kL_law 1150 [a0, a1, a2, a3, a4, a5, a6, a7, a8] (.int y :: .int x :: st) bc bs hp Q ↔ Go kL_law 1151 [a0, a1, a2, a3, a4, a5, a6, a7, a8] (.int (x + y) :: st) bc bs hp Q := Go_next (i := .iadd) rfl rfl
set_option maxRecDepth 100000 in
theorem sL_law_1151 {x : Nat} {i : Int32} : Go kL_law 1151 [a0, a1, a2, a3, a4, a5, a6, a7, a8] (.int i :: .ref x :: st) bc bs hp Q ↔ RdA hp x 0 i (fun v => Go kL_law 1152 [a0, a1, a2, a3, a4, a5, a6, a7, a8] (.int v :: st) bc bs hp Q) := Go_iald rfl
set_option maxRecDepth 100000 in
theorem sL_law_1152 {x : Nat} : Go kL_law 1152 [(.ref x), a1, a2, a3, a4, a5, a6, a7, a8] st bc bs hp Q ↔ Go kL_law 1153 [(.ref x), a1, a2, a3, a4, a5, a6, a7, a8] (.ref x :: st) bc bs hp Q := Go_next (i := .aload_n 0) rfl rfl
set_option maxRecDepth 100000 in
theorem sL_law_1153 {x : Int32} : Go kL_law 1153 [a0, a1, a2, a3, a4, (.int x), a6, a7, a8] st bc bs hp Q ↔ Go kL_law 1155 [a0, a1, a2, a3, a4, (.int x), a6, a7, a8] (.int x :: st) bc bs hp Q := Go_next (i := .iload 5) rfl rfl
set_option maxRecDepth 100000 in
theorem sL_law_1155 : Go kL_law 1155 [a0, a1, a2, a3, a4, a5, a6, a7, a8] st bc bs hp Q ↔ Go kL_law 1156 [a0, a1, a2, a3, a4, a5, a6, a7, a8] (.int 2 :: st) bc bs hp Q := Go_next (i := .iconst 2) rfl rfl
set_option maxRecDepth 100000 in
theorem sL_law_1156 {x y : Int32} : Go kL_law 1156 [a0, a1, a2, a3, a4, a5, a6, a7, a8] (.int y :: .int x :: st) bc bs hp Q ↔ Go kL_law 1157 [a0, a1, a2, a3, a4, a5, a6, a7, a8] (.int (x + y) :: st) bc bs hp Q := Go_next (i := .iadd) rfl rfl
set_option maxRecDepth 100000 in
theorem sL_law_1157 {x : Nat} {i : Int32} : Go kL_law 1157 [a0, a1, a2, a3, a4, a5, a6, a7, a8] (.int i :: .ref x :: st) bc bs hp Q ↔ RdA hp x 0 i (fun v => Go kL_law 1158 [a0, a1, a2, a3, a4, a5, a6, a7, a8] (.int v :: st) bc bs hp Q) := Go_iald rfl
set_option maxRecDepth 100000 in
theorem sL_law_1158 {x : Nat} : Go kL_law 1158 [(.ref x), a1, a2, a3, a4, a5, a6, a7, a8] st bc bs hp Q ↔ Go kL_law 1159 [(.ref x), a1, a2, a3, a4, a5, a6, a7, a8] (.ref x :: st) bc bs hp Q := Go_next (i := .aload_n 0) rfl rfl
set_option maxRecDepth 100000 in
theorem sL_law_1159 {x : Int32} : Go kL_law 1159 [a0, a1, a2, a3, a4, (.int x), a6, a7, a8] st bc bs hp Q ↔ Go kL_law 1161 [a0, a1, a2, a3, a4, (.int x), a6, a7, a8] (.int x :: st) bc bs hp Q := Go_next (i := .iload 5) rfl rfl
set_option maxRecDepth 100000 in
theorem sL_law_1161 : Go kL_law 1161 [a0, a1, a2, a3, a4, a5, a6, a7, a8] st bc bs hp Q ↔ Go kL_law 1162 [a0, a1, a2, a3, a4, a5, a6, a7, a8] (.int 3 :: st) bc bs hp Q := Go_next (i := .iconst 3) rfl rfl
set_option maxRecDepth 100000 in
theorem sL_law_1162 {x y : Int32} : Go kL_law 1162 [a0, a1, a2, a3, a4, a5, a6, a7, a8] (.int y :: .int x :: st) bc bs hp Q ↔ Go kL_law 1163 [a0, a1, a2, a3, a4, a5, a6, a7, a8] (.int (x + y) :: st) bc bs hp Q := Go_next (i := .iadd) rfl rfl
set_option maxRecDepth 100000 in
theorem sL_law_1163 {x : Nat} {i : Int32} : Go kL_law 1163 [a0, a1, a2, a3, a4, a5, a6, a7, a8] (.int i :: .ref x :: st) bc bs hp Q ↔ RdA hp x 0 i (fun v => Go kL_law 1164 [a0, a1, a2, a3, a4, a5, a6, a7, a8] (.int v :: st) bc bs hp Q) := Go_iald rfl
set_option maxRecDepth 100000 in
theorem sL_law_1164 {x : Nat} : Go kL_law 1164 [a0, a1, a2, (.ref x), a4, a5, a6, a7, a8] st bc bs hp Q ↔ Go kL_law 1165 [a0, a1, a2, (.ref x), a4, a5, a6, a7, a8] (.ref x :: st) bc bs hp Q := Go_next (i := .aload_n 3) rfl rfl
set_option maxRecDepth 100000 in
theorem sL_law_1165 {p0 : Nat} {p1 : Int32} {p2 : Int32} {p3 : Int32} {p4 : Nat} : Go kL_law 1165 [a0, a1, a2, a3, a4, a5, a6, a7, a8] (.ref p4 :: .int p3 :: .int p2 :: .int p1 :: .ref p0 :: st) bc bs hp Q ↔ (3 ≤ bc ∧ 18 ≤ bs ∧ nsum st ≤ 8) ∧ Call kL_setLink [.ref p0, .int p1, .int p2, .int p3, .ref p4] hp (Aft kL_law 1168 [a0, a1, a2, a3, a4, a5, a6, a7, a8] st (bc - 3) (bs - 18) Q) := Go_inv (i := .invokestatic 208) rfl rfl rfl rfl rfl rfl
set_option maxRecDepth 100000 in
theorem sL_law_1168 {x : Int32} (hj : a5.category = 1) : Go kL_law 1168 [a0, a1, a2, a3, a4, a5, a6, a7, a8] (.int x :: st) bc bs hp Q ↔ Go kL_law 1170 [a0, a1, a2, a3, a4, a5, (.int x), a7, a8] st bc bs hp Q := Go_sto (i := .istore 6) (j := 6) (v := .int x) rfl rfl (Nat.le_of_ble_eq_true rfl) (decide_eq_true hj) rfl
set_option maxRecDepth 100000 in
theorem sL_law_1170 {x : Nat} : Go kL_law 1170 [a0, a1, (.ref x), a3, a4, a5, a6, a7, a8] st bc bs hp Q ↔ Go kL_law 1171 [a0, a1, (.ref x), a3, a4, a5, a6, a7, a8] (.ref x :: st) bc bs hp Q := Go_next (i := .aload_n 2) rfl rfl
set_option maxRecDepth 100000 in
theorem sL_law_1171 {x : Nat} : Go kL_law 1171 [(.ref x), a1, a2, a3, a4, a5, a6, a7, a8] st bc bs hp Q ↔ Go kL_law 1172 [(.ref x), a1, a2, a3, a4, a5, a6, a7, a8] (.ref x :: st) bc bs hp Q := Go_next (i := .aload_n 0) rfl rfl
set_option maxRecDepth 100000 in
theorem sL_law_1172 {x : Int32} : Go kL_law 1172 [a0, a1, a2, a3, a4, (.int x), a6, a7, a8] st bc bs hp Q ↔ Go kL_law 1174 [a0, a1, a2, a3, a4, (.int x), a6, a7, a8] (.int x :: st) bc bs hp Q := Go_next (i := .iload 5) rfl rfl
set_option maxRecDepth 100000 in
theorem sL_law_1174 : Go kL_law 1174 [a0, a1, a2, a3, a4, a5, a6, a7, a8] st bc bs hp Q ↔ Go kL_law 1175 [a0, a1, a2, a3, a4, a5, a6, a7, a8] (.int 1 :: st) bc bs hp Q := Go_next (i := .iconst 1) rfl rfl
set_option maxRecDepth 100000 in
theorem sL_law_1175 {x y : Int32} : Go kL_law 1175 [a0, a1, a2, a3, a4, a5, a6, a7, a8] (.int y :: .int x :: st) bc bs hp Q ↔ Go kL_law 1176 [a0, a1, a2, a3, a4, a5, a6, a7, a8] (.int (x + y) :: st) bc bs hp Q := Go_next (i := .iadd) rfl rfl
set_option maxRecDepth 100000 in
theorem sL_law_1176 {x : Nat} {i : Int32} : Go kL_law 1176 [a0, a1, a2, a3, a4, a5, a6, a7, a8] (.int i :: .ref x :: st) bc bs hp Q ↔ RdA hp x 0 i (fun v => Go kL_law 1177 [a0, a1, a2, a3, a4, a5, a6, a7, a8] (.int v :: st) bc bs hp Q) := Go_iald rfl
set_option maxRecDepth 100000 in
theorem sL_law_1177 {x : Nat} : Go kL_law 1177 [(.ref x), a1, a2, a3, a4, a5, a6, a7, a8] st bc bs hp Q ↔ Go kL_law 1178 [(.ref x), a1, a2, a3, a4, a5, a6, a7, a8] (.ref x :: st) bc bs hp Q := Go_next (i := .aload_n 0) rfl rfl
set_option maxRecDepth 100000 in
theorem sL_law_1178 {x : Int32} : Go kL_law 1178 [a0, a1, a2, a3, a4, (.int x), a6, a7, a8] st bc bs hp Q ↔ Go kL_law 1180 [a0, a1, a2, a3, a4, (.int x), a6, a7, a8] (.int x :: st) bc bs hp Q := Go_next (i := .iload 5) rfl rfl
set_option maxRecDepth 100000 in
theorem sL_law_1180 : Go kL_law 1180 [a0, a1, a2, a3, a4, a5, a6, a7, a8] st bc bs hp Q ↔ Go kL_law 1181 [a0, a1, a2, a3, a4, a5, a6, a7, a8] (.int 2 :: st) bc bs hp Q := Go_next (i := .iconst 2) rfl rfl
set_option maxRecDepth 100000 in
theorem sL_law_1181 {x y : Int32} : Go kL_law 1181 [a0, a1, a2, a3, a4, a5, a6, a7, a8] (.int y :: .int x :: st) bc bs hp Q ↔ Go kL_law 1182 [a0, a1, a2, a3, a4, a5, a6, a7, a8] (.int (x + y) :: st) bc bs hp Q := Go_next (i := .iadd) rfl rfl
set_option maxRecDepth 100000 in
theorem sL_law_1182 {x : Nat} {i : Int32} : Go kL_law 1182 [a0, a1, a2, a3, a4, a5, a6, a7, a8] (.int i :: .ref x :: st) bc bs hp Q ↔ RdA hp x 0 i (fun v => Go kL_law 1183 [a0, a1, a2, a3, a4, a5, a6, a7, a8] (.int v :: st) bc bs hp Q) := Go_iald rfl
set_option maxRecDepth 100000 in
theorem sL_law_1183 {x : Nat} : Go kL_law 1183 [(.ref x), a1, a2, a3, a4, a5, a6, a7, a8] st bc bs hp Q ↔ Go kL_law 1184 [(.ref x), a1, a2, a3, a4, a5, a6, a7, a8] (.ref x :: st) bc bs hp Q := Go_next (i := .aload_n 0) rfl rfl
set_option maxRecDepth 100000 in
theorem sL_law_1184 {x : Int32} : Go kL_law 1184 [a0, a1, a2, a3, a4, (.int x), a6, a7, a8] st bc bs hp Q ↔ Go kL_law 1186 [a0, a1, a2, a3, a4, (.int x), a6, a7, a8] (.int x :: st) bc bs hp Q := Go_next (i := .iload 5) rfl rfl
set_option maxRecDepth 100000 in
theorem sL_law_1186 : Go kL_law 1186 [a0, a1, a2, a3, a4, a5, a6, a7, a8] st bc bs hp Q ↔ Go kL_law 1187 [a0, a1, a2, a3, a4, a5, a6, a7, a8] (.int 3 :: st) bc bs hp Q := Go_next (i := .iconst 3) rfl rfl
set_option maxRecDepth 100000 in
theorem sL_law_1187 {x y : Int32} : Go kL_law 1187 [a0, a1, a2, a3, a4, a5, a6, a7, a8] (.int y :: .int x :: st) bc bs hp Q ↔ Go kL_law 1188 [a0, a1, a2, a3, a4, a5, a6, a7, a8] (.int (x + y) :: st) bc bs hp Q := Go_next (i := .iadd) rfl rfl
set_option maxRecDepth 100000 in
theorem sL_law_1188 {x : Nat} {i : Int32} : Go kL_law 1188 [a0, a1, a2, a3, a4, a5, a6, a7, a8] (.int i :: .ref x :: st) bc bs hp Q ↔ RdA hp x 0 i (fun v => Go kL_law 1189 [a0, a1, a2, a3, a4, a5, a6, a7, a8] (.int v :: st) bc bs hp Q) := Go_iald rfl
set_option maxRecDepth 100000 in
theorem sL_law_1189 {p0 : Int32} {p1 : Int32} {p2 : Int32} {x : Nat} : Go kL_law 1189 [a0, a1, a2, a3, a4, a5, a6, a7, a8] (.int p2 :: .int p1 :: .int p0 :: .ref x :: st) bc bs hp Q ↔ Rcv hp x 8 ∧ nsum st ≤ 8 ∧ Call kX8_setLink [.ref x, .int p0, .int p1, .int p2] hp (Aft kL_law 1192 [a0, a1, a2, a3, a4, a5, a6, a7, a8] st bc bs Q) := Go_invV0 rfl rfl rfl rfl rfl rfl rfl rfl rfl rfl
set_option maxRecDepth 100000 in
theorem sL_law_1192 {x : Int32} (hj : a6.category = 1) : Go kL_law 1192 [a0, a1, a2, a3, a4, a5, a6, a7, a8] (.int x :: st) bc bs hp Q ↔ Go kL_law 1194 [a0, a1, a2, a3, a4, a5, a6, (.int x), a8] st bc bs hp Q := Go_sto (i := .istore 7) (j := 7) (v := .int x) rfl rfl (Nat.le_of_ble_eq_true rfl) (decide_eq_true hj) rfl
set_option maxRecDepth 100000 in
theorem sL_law_1194 {x : Nat} : Go kL_law 1194 [a0, a1, (.ref x), a3, a4, a5, a6, a7, a8] st bc bs hp Q ↔ Go kL_law 1195 [a0, a1, (.ref x), a3, a4, a5, a6, a7, a8] (.ref x :: st) bc bs hp Q := Go_next (i := .aload_n 2) rfl rfl
set_option maxRecDepth 100000 in
theorem sL_law_1195 {x : Nat} : Go kL_law 1195 [a0, a1, a2, a3, a4, a5, a6, a7, a8] (.ref x :: st) bc bs hp Q ↔ Rcv hp x 8 ∧ nsum st ≤ 8 ∧ Call kX8_thrown [.ref x] hp (Aft kL_law 1198 [a0, a1, a2, a3, a4, a5, a6, a7, a8] st bc bs Q) := Go_invV0 rfl rfl rfl rfl rfl rfl rfl rfl rfl rfl
set_option maxRecDepth 100000 in
theorem sL_law_1198 {x : Int32} : Go kL_law 1198 [a0, a1, a2, a3, a4, a5, (.int x), a7, a8] st bc bs hp Q ↔ Go kL_law 1200 [a0, a1, a2, a3, a4, a5, (.int x), a7, a8] (.int x :: st) bc bs hp Q := Go_next (i := .iload 6) rfl rfl
set_option maxRecDepth 100000 in
theorem sL_law_1200 {x y : Int32} : Go kL_law 1200 [a0, a1, a2, a3, a4, a5, a6, a7, a8] (.int y :: .int x :: st) bc bs hp Q ↔ (x = y → Go kL_law 1205 [a0, a1, a2, a3, a4, a5, a6, a7, a8] st bc bs hp Q) ∧ (¬ x = y → Go kL_law 1203 [a0, a1, a2, a3, a4, a5, a6, a7, a8] st bc bs hp Q) := Go_ift (c := x = y) (i := .if_icmp .eq 5) rfl rfl
set_option maxRecDepth 100000 in
theorem sL_law_1203 : Go kL_law 1203 [a0, a1, a2, a3, a4, a5, a6, a7, a8] st bc bs hp Q ↔ Go kL_law 1204 [a0, a1, a2, a3, a4, a5, a6, a7, a8] (.int 0 :: st) bc bs hp Q := Go_next (i := .iconst 0) rfl rfl
set_option maxRecDepth 100000 in
theorem sL_law_1204 {x : Int32} : Go kL_law 1204 [a0, a1, a2, a3, a4, a5, a6, a7, a8] [.int x] bc bs hp Q ↔ outI kL_law x = true ∧ Q (.inl (some (.int x))) hp := Go_retIf (i := .ireturn) rfl rfl
set_option maxRecDepth 100000 in
theorem sL_law_1205 {x : Int32} : Go kL_law 1205 [a0, a1, a2, a3, a4, a5, (.int x), a7, a8] st bc bs hp Q ↔ Go kL_law 1207 [a0, a1, a2, a3, a4, a5, (.int x), a7, a8] (.int x :: st) bc bs hp Q := Go_next (i := .iload 6) rfl rfl
set_option maxRecDepth 100000 in
theorem sL_law_1207 {x : Int32} : Go kL_law 1207 [a0, a1, a2, a3, a4, a5, a6, a7, a8] (.int x :: st) bc bs hp Q ↔ (¬ x = 0 → Go kL_law 1222 [a0, a1, a2, a3, a4, a5, a6, a7, a8] st bc bs hp Q) ∧ (x = 0 → Go kL_law 1210 [a0, a1, a2, a3, a4, a5, a6, a7, a8] st bc bs hp Q) := Go_ifn (c := x = 0) (i := .ifCond .ne 15) rfl rfl
set_option maxRecDepth 100000 in
theorem sL_law_1210 {x : Nat} : Go kL_law 1210 [a0, a1, a2, (.ref x), a4, a5, a6, a7, a8] st bc bs hp Q ↔ Go kL_law 1211 [a0, a1, a2, (.ref x), a4, a5, a6, a7, a8] (.ref x :: st) bc bs hp Q := Go_next (i := .aload_n 3) rfl rfl
set_option maxRecDepth 100000 in
theorem sL_law_1211 : Go kL_law 1211 [a0, a1, a2, a3, a4, a5, a6, a7, a8] st bc bs hp Q ↔ Go kL_law 1212 [a0, a1, a2, a3, a4, a5, a6, a7, a8] (.int 0 :: st) bc bs hp Q := Go_next (i := .iconst 0) rfl rfl
set_option maxRecDepth 100000 in
theorem sL_law_1212 {x : Nat} {i : Int32} : Go kL_law 1212 [a0, a1, a2, a3, a4, a5, a6, a7, a8] (.int i :: .ref x :: st) bc bs hp Q ↔ RdL hp x i (fun v => Go kL_law 1213 [a0, a1, a2, a3, a4, a5, a6, a7, a8] (.long v :: st) bc bs hp Q) := Go_lald rfl
set_option maxRecDepth 100000 in
theorem sL_law_1213 {x : Int32} : Go kL_law 1213 [a0, a1, a2, a3, a4, a5, a6, (.int x), a8] st bc bs hp Q ↔ Go kL_law 1215 [a0, a1, a2, a3, a4, a5, a6, (.int x), a8] (.int x :: st) bc bs hp Q := Go_next (i := .iload 7) rfl rfl
set_option maxRecDepth 100000 in
theorem sL_law_1215 {x : Int32} : Go kL_law 1215 [a0, a1, a2, a3, a4, a5, a6, a7, a8] (.int x :: st) bc bs hp Q ↔ Go kL_law 1216 [a0, a1, a2, a3, a4, a5, a6, a7, a8] (.long x.toInt64 :: st) bc bs hp Q := Go_next (i := .i2l) rfl rfl
set_option maxRecDepth 100000 in
theorem sL_law_1216 {x y : Int64} : Go kL_law 1216 [a0, a1, a2, a3, a4, a5, a6, a7, a8] (.long y :: .long x :: st) bc bs hp Q ↔ Go kL_law 1217 [a0, a1, a2, a3, a4, a5, a6, a7, a8] (.int (lg_cmp x y) :: st) bc bs hp Q := Go_next (i := .lcmp) rfl rfl
set_option maxRecDepth 100000 in
theorem sL_law_1217 {x : Int32} : Go kL_law 1217 [a0, a1, a2, a3, a4, a5, a6, a7, a8] (.int x :: st) bc bs hp Q ↔ (x = 0 → Go kL_law 1222 [a0, a1, a2, a3, a4, a5, a6, a7, a8] st bc bs hp Q) ∧ (¬ x = 0 → Go kL_law 1220 [a0, a1, a2, a3, a4, a5, a6, a7, a8] st bc bs hp Q) := Go_ift (c := x = 0) (i := .ifCond .eq 5) rfl rfl
set_option maxRecDepth 100000 in
theorem sL_law_1220 : Go kL_law 1220 [a0, a1, a2, a3, a4, a5, a6, a7, a8] st bc bs hp Q ↔ Go kL_law 1221 [a0, a1, a2, a3, a4, a5, a6, a7, a8] (.int 0 :: st) bc bs hp Q := Go_next (i := .iconst 0) rfl rfl
set_option maxRecDepth 100000 in
theorem sL_law_1221 {x : Int32} : Go kL_law 1221 [a0, a1, a2, a3, a4, a5, a6, a7, a8] [.int x] bc bs hp Q ↔ outI kL_law x = true ∧ Q (.inl (some (.int x))) hp := Go_retIf (i := .ireturn) rfl rfl
set_option maxRecDepth 100000 in
theorem sL_law_1222 : Go kL_law 1222 [a0, a1, a2, a3, a4, a5, a6, a7, a8] st bc bs hp Q ↔ Go kL_law 3086 [a0, a1, a2, a3, a4, a5, a6, a7, a8] st bc bs hp Q := Go_next (i := .goto 1864) rfl rfl
set_option maxRecDepth 100000 in
theorem sL_law_1225 {x : Nat} : Go kL_law 1225 [a0, (.ref x), a2, a3, a4, a5, a6, a7, a8] st bc bs hp Q ↔ Go kL_law 1226 [a0, (.ref x), a2, a3, a4, a5, a6, a7, a8] (.ref x :: st) bc bs hp Q := Go_next (i := .aload_n 1) rfl rfl
set_option maxRecDepth 100000 in
theorem sL_law_1226 {x : Nat} : Go kL_law 1226 [(.ref x), a1, a2, a3, a4, a5, a6, a7, a8] st bc bs hp Q ↔ Go kL_law 1227 [(.ref x), a1, a2, a3, a4, a5, a6, a7, a8] (.ref x :: st) bc bs hp Q := Go_next (i := .aload_n 0) rfl rfl
set_option maxRecDepth 100000 in
theorem sL_law_1227 {x : Int32} : Go kL_law 1227 [a0, a1, a2, a3, a4, (.int x), a6, a7, a8] st bc bs hp Q ↔ Go kL_law 1229 [a0, a1, a2, a3, a4, (.int x), a6, a7, a8] (.int x :: st) bc bs hp Q := Go_next (i := .iload 5) rfl rfl
set_option maxRecDepth 100000 in
theorem sL_law_1229 : Go kL_law 1229 [a0, a1, a2, a3, a4, a5, a6, a7, a8] st bc bs hp Q ↔ Go kL_law 1230 [a0, a1, a2, a3, a4, a5, a6, a7, a8] (.int 1 :: st) bc bs hp Q := Go_next (i := .iconst 1) rfl rfl
set_option maxRecDepth 100000 in
theorem sL_law_1230 {x y : Int32} : Go kL_law 1230 [a0, a1, a2, a3, a4, a5, a6, a7, a8] (.int y :: .int x :: st) bc bs hp Q ↔ Go kL_law 1231 [a0, a1, a2, a3, a4, a5, a6, a7, a8] (.int (x + y) :: st) bc bs hp Q := Go_next (i := .iadd) rfl rfl
set_option maxRecDepth 100000 in
theorem sL_law_1231 {x : Nat} {i : Int32} : Go kL_law 1231 [a0, a1, a2, a3, a4, a5, a6, a7, a8] (.int i :: .ref x :: st) bc bs hp Q ↔ RdA hp x 0 i (fun v => Go kL_law 1232 [a0, a1, a2, a3, a4, a5, a6, a7, a8] (.int v :: st) bc bs hp Q) := Go_iald rfl
set_option maxRecDepth 100000 in
theorem sL_law_1232 {x : Nat} : Go kL_law 1232 [(.ref x), a1, a2, a3, a4, a5, a6, a7, a8] st bc bs hp Q ↔ Go kL_law 1233 [(.ref x), a1, a2, a3, a4, a5, a6, a7, a8] (.ref x :: st) bc bs hp Q := Go_next (i := .aload_n 0) rfl rfl
set_option maxRecDepth 100000 in
theorem sL_law_1233 {x : Int32} : Go kL_law 1233 [a0, a1, a2, a3, a4, (.int x), a6, a7, a8] st bc bs hp Q ↔ Go kL_law 1235 [a0, a1, a2, a3, a4, (.int x), a6, a7, a8] (.int x :: st) bc bs hp Q := Go_next (i := .iload 5) rfl rfl
set_option maxRecDepth 100000 in
theorem sL_law_1235 : Go kL_law 1235 [a0, a1, a2, a3, a4, a5, a6, a7, a8] st bc bs hp Q ↔ Go kL_law 1236 [a0, a1, a2, a3, a4, a5, a6, a7, a8] (.int 2 :: st) bc bs hp Q := Go_next (i := .iconst 2) rfl rfl
set_option maxRecDepth 100000 in
theorem sL_law_1236 {x y : Int32} : Go kL_law 1236 [a0, a1, a2, a3, a4, a5, a6, a7, a8] (.int y :: .int x :: st) bc bs hp Q ↔ Go kL_law 1237 [a0, a1, a2, a3, a4, a5, a6, a7, a8] (.int (x + y) :: st) bc bs hp Q := Go_next (i := .iadd) rfl rfl
set_option maxRecDepth 100000 in
theorem sL_law_1237 {x : Nat} {i : Int32} : Go kL_law 1237 [a0, a1, a2, a3, a4, a5, a6, a7, a8] (.int i :: .ref x :: st) bc bs hp Q ↔ RdA hp x 0 i (fun v => Go kL_law 1238 [a0, a1, a2, a3, a4, a5, a6, a7, a8] (.int v :: st) bc bs hp Q) := Go_iald rfl
set_option maxRecDepth 100000 in
theorem sL_law_1238 {x : Nat} : Go kL_law 1238 [(.ref x), a1, a2, a3, a4, a5, a6, a7, a8] st bc bs hp Q ↔ Go kL_law 1239 [(.ref x), a1, a2, a3, a4, a5, a6, a7, a8] (.ref x :: st) bc bs hp Q := Go_next (i := .aload_n 0) rfl rfl
set_option maxRecDepth 100000 in
theorem sL_law_1239 {x : Int32} : Go kL_law 1239 [a0, a1, a2, a3, a4, (.int x), a6, a7, a8] st bc bs hp Q ↔ Go kL_law 1241 [a0, a1, a2, a3, a4, (.int x), a6, a7, a8] (.int x :: st) bc bs hp Q := Go_next (i := .iload 5) rfl rfl
set_option maxRecDepth 100000 in
theorem sL_law_1241 : Go kL_law 1241 [a0, a1, a2, a3, a4, a5, a6, a7, a8] st bc bs hp Q ↔ Go kL_law 1242 [a0, a1, a2, a3, a4, a5, a6, a7, a8] (.int 3 :: st) bc bs hp Q := Go_next (i := .iconst 3) rfl rfl
set_option maxRecDepth 100000 in
theorem sL_law_1242 {x y : Int32} : Go kL_law 1242 [a0, a1, a2, a3, a4, a5, a6, a7, a8] (.int y :: .int x :: st) bc bs hp Q ↔ Go kL_law 1243 [a0, a1, a2, a3, a4, a5, a6, a7, a8] (.int (x + y) :: st) bc bs hp Q := Go_next (i := .iadd) rfl rfl
set_option maxRecDepth 100000 in
theorem sL_law_1243 {x : Nat} {i : Int32} : Go kL_law 1243 [a0, a1, a2, a3, a4, a5, a6, a7, a8] (.int i :: .ref x :: st) bc bs hp Q ↔ RdA hp x 0 i (fun v => Go kL_law 1244 [a0, a1, a2, a3, a4, a5, a6, a7, a8] (.int v :: st) bc bs hp Q) := Go_iald rfl
set_option maxRecDepth 100000 in
theorem sL_law_1244 {x : Nat} : Go kL_law 1244 [a0, a1, a2, (.ref x), a4, a5, a6, a7, a8] st bc bs hp Q ↔ Go kL_law 1245 [a0, a1, a2, (.ref x), a4, a5, a6, a7, a8] (.ref x :: st) bc bs hp Q := Go_next (i := .aload_n 3) rfl rfl
set_option maxRecDepth 100000 in
theorem sL_law_1245 {p0 : Nat} {p1 : Int32} {p2 : Int32} {p3 : Int32} {p4 : Nat} : Go kL_law 1245 [a0, a1, a2, a3, a4, a5, a6, a7, a8] (.ref p4 :: .int p3 :: .int p2 :: .int p1 :: .ref p0 :: st) bc bs hp Q ↔ (3 ≤ bc ∧ 18 ≤ bs ∧ nsum st ≤ 8) ∧ Call kL_setCode [.ref p0, .int p1, .int p2, .int p3, .ref p4] hp (Aft kL_law 1248 [a0, a1, a2, a3, a4, a5, a6, a7, a8] st (bc - 3) (bs - 18) Q) := Go_inv (i := .invokestatic 211) rfl rfl rfl rfl rfl rfl
set_option maxRecDepth 100000 in
theorem sL_law_1248 {x : Int32} (hj : a5.category = 1) : Go kL_law 1248 [a0, a1, a2, a3, a4, a5, a6, a7, a8] (.int x :: st) bc bs hp Q ↔ Go kL_law 1250 [a0, a1, a2, a3, a4, a5, (.int x), a7, a8] st bc bs hp Q := Go_sto (i := .istore 6) (j := 6) (v := .int x) rfl rfl (Nat.le_of_ble_eq_true rfl) (decide_eq_true hj) rfl
set_option maxRecDepth 100000 in
theorem sL_law_1250 {x : Nat} : Go kL_law 1250 [a0, a1, (.ref x), a3, a4, a5, a6, a7, a8] st bc bs hp Q ↔ Go kL_law 1251 [a0, a1, (.ref x), a3, a4, a5, a6, a7, a8] (.ref x :: st) bc bs hp Q := Go_next (i := .aload_n 2) rfl rfl
set_option maxRecDepth 100000 in
theorem sL_law_1251 {x : Nat} : Go kL_law 1251 [(.ref x), a1, a2, a3, a4, a5, a6, a7, a8] st bc bs hp Q ↔ Go kL_law 1252 [(.ref x), a1, a2, a3, a4, a5, a6, a7, a8] (.ref x :: st) bc bs hp Q := Go_next (i := .aload_n 0) rfl rfl
set_option maxRecDepth 100000 in
theorem sL_law_1252 {x : Int32} : Go kL_law 1252 [a0, a1, a2, a3, a4, (.int x), a6, a7, a8] st bc bs hp Q ↔ Go kL_law 1254 [a0, a1, a2, a3, a4, (.int x), a6, a7, a8] (.int x :: st) bc bs hp Q := Go_next (i := .iload 5) rfl rfl
set_option maxRecDepth 100000 in
theorem sL_law_1254 : Go kL_law 1254 [a0, a1, a2, a3, a4, a5, a6, a7, a8] st bc bs hp Q ↔ Go kL_law 1255 [a0, a1, a2, a3, a4, a5, a6, a7, a8] (.int 1 :: st) bc bs hp Q := Go_next (i := .iconst 1) rfl rfl
set_option maxRecDepth 100000 in
theorem sL_law_1255 {x y : Int32} : Go kL_law 1255 [a0, a1, a2, a3, a4, a5, a6, a7, a8] (.int y :: .int x :: st) bc bs hp Q ↔ Go kL_law 1256 [a0, a1, a2, a3, a4, a5, a6, a7, a8] (.int (x + y) :: st) bc bs hp Q := Go_next (i := .iadd) rfl rfl
set_option maxRecDepth 100000 in
theorem sL_law_1256 {x : Nat} {i : Int32} : Go kL_law 1256 [a0, a1, a2, a3, a4, a5, a6, a7, a8] (.int i :: .ref x :: st) bc bs hp Q ↔ RdA hp x 0 i (fun v => Go kL_law 1257 [a0, a1, a2, a3, a4, a5, a6, a7, a8] (.int v :: st) bc bs hp Q) := Go_iald rfl
set_option maxRecDepth 100000 in
theorem sL_law_1257 {x : Nat} : Go kL_law 1257 [(.ref x), a1, a2, a3, a4, a5, a6, a7, a8] st bc bs hp Q ↔ Go kL_law 1258 [(.ref x), a1, a2, a3, a4, a5, a6, a7, a8] (.ref x :: st) bc bs hp Q := Go_next (i := .aload_n 0) rfl rfl
set_option maxRecDepth 100000 in
theorem sL_law_1258 {x : Int32} : Go kL_law 1258 [a0, a1, a2, a3, a4, (.int x), a6, a7, a8] st bc bs hp Q ↔ Go kL_law 1260 [a0, a1, a2, a3, a4, (.int x), a6, a7, a8] (.int x :: st) bc bs hp Q := Go_next (i := .iload 5) rfl rfl
set_option maxRecDepth 100000 in
theorem sL_law_1260 : Go kL_law 1260 [a0, a1, a2, a3, a4, a5, a6, a7, a8] st bc bs hp Q ↔ Go kL_law 1261 [a0, a1, a2, a3, a4, a5, a6, a7, a8] (.int 2 :: st) bc bs hp Q := Go_next (i := .iconst 2) rfl rfl
set_option maxRecDepth 100000 in
theorem sL_law_1261 {x y : Int32} : Go kL_law 1261 [a0, a1, a2, a3, a4, a5, a6, a7, a8] (.int y :: .int x :: st) bc bs hp Q ↔ Go kL_law 1262 [a0, a1, a2, a3, a4, a5, a6, a7, a8] (.int (x + y) :: st) bc bs hp Q := Go_next (i := .iadd) rfl rfl
set_option maxRecDepth 100000 in
theorem sL_law_1262 {x : Nat} {i : Int32} : Go kL_law 1262 [a0, a1, a2, a3, a4, a5, a6, a7, a8] (.int i :: .ref x :: st) bc bs hp Q ↔ RdA hp x 0 i (fun v => Go kL_law 1263 [a0, a1, a2, a3, a4, a5, a6, a7, a8] (.int v :: st) bc bs hp Q) := Go_iald rfl
set_option maxRecDepth 100000 in
theorem sL_law_1263 {x : Nat} : Go kL_law 1263 [(.ref x), a1, a2, a3, a4, a5, a6, a7, a8] st bc bs hp Q ↔ Go kL_law 1264 [(.ref x), a1, a2, a3, a4, a5, a6, a7, a8] (.ref x :: st) bc bs hp Q := Go_next (i := .aload_n 0) rfl rfl
set_option maxRecDepth 100000 in
theorem sL_law_1264 {x : Int32} : Go kL_law 1264 [a0, a1, a2, a3, a4, (.int x), a6, a7, a8] st bc bs hp Q ↔ Go kL_law 1266 [a0, a1, a2, a3, a4, (.int x), a6, a7, a8] (.int x :: st) bc bs hp Q := Go_next (i := .iload 5) rfl rfl
set_option maxRecDepth 100000 in
theorem sL_law_1266 : Go kL_law 1266 [a0, a1, a2, a3, a4, a5, a6, a7, a8] st bc bs hp Q ↔ Go kL_law 1267 [a0, a1, a2, a3, a4, a5, a6, a7, a8] (.int 3 :: st) bc bs hp Q := Go_next (i := .iconst 3) rfl rfl
set_option maxRecDepth 100000 in
theorem sL_law_1267 {x y : Int32} : Go kL_law 1267 [a0, a1, a2, a3, a4, a5, a6, a7, a8] (.int y :: .int x :: st) bc bs hp Q ↔ Go kL_law 1268 [a0, a1, a2, a3, a4, a5, a6, a7, a8] (.int (x + y) :: st) bc bs hp Q := Go_next (i := .iadd) rfl rfl
set_option maxRecDepth 100000 in
theorem sL_law_1268 {x : Nat} {i : Int32} : Go kL_law 1268 [a0, a1, a2, a3, a4, a5, a6, a7, a8] (.int i :: .ref x :: st) bc bs hp Q ↔ RdA hp x 0 i (fun v => Go kL_law 1269 [a0, a1, a2, a3, a4, a5, a6, a7, a8] (.int v :: st) bc bs hp Q) := Go_iald rfl
set_option maxRecDepth 100000 in
theorem sL_law_1269 {p0 : Int32} {p1 : Int32} {p2 : Int32} {x : Nat} : Go kL_law 1269 [a0, a1, a2, a3, a4, a5, a6, a7, a8] (.int p2 :: .int p1 :: .int p0 :: .ref x :: st) bc bs hp Q ↔ Rcv hp x 8 ∧ nsum st ≤ 8 ∧ Call kX8_setCode [.ref x, .int p0, .int p1, .int p2] hp (Aft kL_law 1272 [a0, a1, a2, a3, a4, a5, a6, a7, a8] st bc bs Q) := Go_invV0 rfl rfl rfl rfl rfl rfl rfl rfl rfl rfl
set_option maxRecDepth 100000 in
theorem sL_law_1272 {x : Int32} (hj : a6.category = 1) : Go kL_law 1272 [a0, a1, a2, a3, a4, a5, a6, a7, a8] (.int x :: st) bc bs hp Q ↔ Go kL_law 1274 [a0, a1, a2, a3, a4, a5, a6, (.int x), a8] st bc bs hp Q := Go_sto (i := .istore 7) (j := 7) (v := .int x) rfl rfl (Nat.le_of_ble_eq_true rfl) (decide_eq_true hj) rfl
set_option maxRecDepth 100000 in
theorem sL_law_1274 {x : Nat} : Go kL_law 1274 [a0, a1, (.ref x), a3, a4, a5, a6, a7, a8] st bc bs hp Q ↔ Go kL_law 1275 [a0, a1, (.ref x), a3, a4, a5, a6, a7, a8] (.ref x :: st) bc bs hp Q := Go_next (i := .aload_n 2) rfl rfl
set_option maxRecDepth 100000 in
theorem sL_law_1275 {x : Nat} : Go kL_law 1275 [a0, a1, a2, a3, a4, a5, a6, a7, a8] (.ref x :: st) bc bs hp Q ↔ Rcv hp x 8 ∧ nsum st ≤ 8 ∧ Call kX8_thrown [.ref x] hp (Aft kL_law 1278 [a0, a1, a2, a3, a4, a5, a6, a7, a8] st bc bs Q) := Go_invV0 rfl rfl rfl rfl rfl rfl rfl rfl rfl rfl
set_option maxRecDepth 100000 in
theorem sL_law_1278 {x : Int32} : Go kL_law 1278 [a0, a1, a2, a3, a4, a5, (.int x), a7, a8] st bc bs hp Q ↔ Go kL_law 1280 [a0, a1, a2, a3, a4, a5, (.int x), a7, a8] (.int x :: st) bc bs hp Q := Go_next (i := .iload 6) rfl rfl
set_option maxRecDepth 100000 in
theorem sL_law_1280 {x y : Int32} : Go kL_law 1280 [a0, a1, a2, a3, a4, a5, a6, a7, a8] (.int y :: .int x :: st) bc bs hp Q ↔ (x = y → Go kL_law 1285 [a0, a1, a2, a3, a4, a5, a6, a7, a8] st bc bs hp Q) ∧ (¬ x = y → Go kL_law 1283 [a0, a1, a2, a3, a4, a5, a6, a7, a8] st bc bs hp Q) := Go_ift (c := x = y) (i := .if_icmp .eq 5) rfl rfl
set_option maxRecDepth 100000 in
theorem sL_law_1283 : Go kL_law 1283 [a0, a1, a2, a3, a4, a5, a6, a7, a8] st bc bs hp Q ↔ Go kL_law 1284 [a0, a1, a2, a3, a4, a5, a6, a7, a8] (.int 0 :: st) bc bs hp Q := Go_next (i := .iconst 0) rfl rfl
set_option maxRecDepth 100000 in
theorem sL_law_1284 {x : Int32} : Go kL_law 1284 [a0, a1, a2, a3, a4, a5, a6, a7, a8] [.int x] bc bs hp Q ↔ outI kL_law x = true ∧ Q (.inl (some (.int x))) hp := Go_retIf (i := .ireturn) rfl rfl
set_option maxRecDepth 100000 in
theorem sL_law_1285 {x : Int32} : Go kL_law 1285 [a0, a1, a2, a3, a4, a5, (.int x), a7, a8] st bc bs hp Q ↔ Go kL_law 1287 [a0, a1, a2, a3, a4, a5, (.int x), a7, a8] (.int x :: st) bc bs hp Q := Go_next (i := .iload 6) rfl rfl
set_option maxRecDepth 100000 in
theorem sL_law_1287 {x : Int32} : Go kL_law 1287 [a0, a1, a2, a3, a4, a5, a6, a7, a8] (.int x :: st) bc bs hp Q ↔ (¬ x = 0 → Go kL_law 1302 [a0, a1, a2, a3, a4, a5, a6, a7, a8] st bc bs hp Q) ∧ (x = 0 → Go kL_law 1290 [a0, a1, a2, a3, a4, a5, a6, a7, a8] st bc bs hp Q) := Go_ifn (c := x = 0) (i := .ifCond .ne 15) rfl rfl
set_option maxRecDepth 100000 in
theorem sL_law_1290 {x : Nat} : Go kL_law 1290 [a0, a1, a2, (.ref x), a4, a5, a6, a7, a8] st bc bs hp Q ↔ Go kL_law 1291 [a0, a1, a2, (.ref x), a4, a5, a6, a7, a8] (.ref x :: st) bc bs hp Q := Go_next (i := .aload_n 3) rfl rfl
set_option maxRecDepth 100000 in
theorem sL_law_1291 : Go kL_law 1291 [a0, a1, a2, a3, a4, a5, a6, a7, a8] st bc bs hp Q ↔ Go kL_law 1292 [a0, a1, a2, a3, a4, a5, a6, a7, a8] (.int 0 :: st) bc bs hp Q := Go_next (i := .iconst 0) rfl rfl
set_option maxRecDepth 100000 in
theorem sL_law_1292 {x : Nat} {i : Int32} : Go kL_law 1292 [a0, a1, a2, a3, a4, a5, a6, a7, a8] (.int i :: .ref x :: st) bc bs hp Q ↔ RdL hp x i (fun v => Go kL_law 1293 [a0, a1, a2, a3, a4, a5, a6, a7, a8] (.long v :: st) bc bs hp Q) := Go_lald rfl
set_option maxRecDepth 100000 in
theorem sL_law_1293 {x : Int32} : Go kL_law 1293 [a0, a1, a2, a3, a4, a5, a6, (.int x), a8] st bc bs hp Q ↔ Go kL_law 1295 [a0, a1, a2, a3, a4, a5, a6, (.int x), a8] (.int x :: st) bc bs hp Q := Go_next (i := .iload 7) rfl rfl
set_option maxRecDepth 100000 in
theorem sL_law_1295 {x : Int32} : Go kL_law 1295 [a0, a1, a2, a3, a4, a5, a6, a7, a8] (.int x :: st) bc bs hp Q ↔ Go kL_law 1296 [a0, a1, a2, a3, a4, a5, a6, a7, a8] (.long x.toInt64 :: st) bc bs hp Q := Go_next (i := .i2l) rfl rfl
set_option maxRecDepth 100000 in
theorem sL_law_1296 {x y : Int64} : Go kL_law 1296 [a0, a1, a2, a3, a4, a5, a6, a7, a8] (.long y :: .long x :: st) bc bs hp Q ↔ Go kL_law 1297 [a0, a1, a2, a3, a4, a5, a6, a7, a8] (.int (lg_cmp x y) :: st) bc bs hp Q := Go_next (i := .lcmp) rfl rfl
set_option maxRecDepth 100000 in
theorem sL_law_1297 {x : Int32} : Go kL_law 1297 [a0, a1, a2, a3, a4, a5, a6, a7, a8] (.int x :: st) bc bs hp Q ↔ (x = 0 → Go kL_law 1302 [a0, a1, a2, a3, a4, a5, a6, a7, a8] st bc bs hp Q) ∧ (¬ x = 0 → Go kL_law 1300 [a0, a1, a2, a3, a4, a5, a6, a7, a8] st bc bs hp Q) := Go_ift (c := x = 0) (i := .ifCond .eq 5) rfl rfl
set_option maxRecDepth 100000 in
theorem sL_law_1300 : Go kL_law 1300 [a0, a1, a2, a3, a4, a5, a6, a7, a8] st bc bs hp Q ↔ Go kL_law 1301 [a0, a1, a2, a3, a4, a5, a6, a7, a8] (.int 0 :: st) bc bs hp Q := Go_next (i := .iconst 0) rfl rfl
set_option maxRecDepth 100000 in
theorem sL_law_1301 {x : Int32} : Go kL_law 1301 [a0, a1, a2, a3, a4, a5, a6, a7, a8] [.int x] bc bs hp Q ↔ outI kL_law x = true ∧ Q (.inl (some (.int x))) hp := Go_retIf (i := .ireturn) rfl rfl
set_option maxRecDepth 100000 in
theorem sL_law_1302 : Go kL_law 1302 [a0, a1, a2, a3, a4, a5, a6, a7, a8] st bc bs hp Q ↔ Go kL_law 3086 [a0, a1, a2, a3, a4, a5, a6, a7, a8] st bc bs hp Q := Go_next (i := .goto 1784) rfl rfl
set_option maxRecDepth 100000 in
theorem sL_law_1305 {x : Nat} : Go kL_law 1305 [a0, (.ref x), a2, a3, a4, a5, a6, a7, a8] st bc bs hp Q ↔ Go kL_law 1306 [a0, (.ref x), a2, a3, a4, a5, a6, a7, a8] (.ref x :: st) bc bs hp Q := Go_next (i := .aload_n 1) rfl rfl
set_option maxRecDepth 100000 in
theorem sL_law_1306 {x : Nat} : Go kL_law 1306 [(.ref x), a1, a2, a3, a4, a5, a6, a7, a8] st bc bs hp Q ↔ Go kL_law 1307 [(.ref x), a1, a2, a3, a4, a5, a6, a7, a8] (.ref x :: st) bc bs hp Q := Go_next (i := .aload_n 0) rfl rfl
set_option maxRecDepth 100000 in
theorem sL_law_1307 {x : Int32} : Go kL_law 1307 [a0, a1, a2, a3, a4, (.int x), a6, a7, a8] st bc bs hp Q ↔ Go kL_law 1309 [a0, a1, a2, a3, a4, (.int x), a6, a7, a8] (.int x :: st) bc bs hp Q := Go_next (i := .iload 5) rfl rfl
set_option maxRecDepth 100000 in
theorem sL_law_1309 : Go kL_law 1309 [a0, a1, a2, a3, a4, a5, a6, a7, a8] st bc bs hp Q ↔ Go kL_law 1310 [a0, a1, a2, a3, a4, a5, a6, a7, a8] (.int 1 :: st) bc bs hp Q := Go_next (i := .iconst 1) rfl rfl
set_option maxRecDepth 100000 in
theorem sL_law_1310 {x y : Int32} : Go kL_law 1310 [a0, a1, a2, a3, a4, a5, a6, a7, a8] (.int y :: .int x :: st) bc bs hp Q ↔ Go kL_law 1311 [a0, a1, a2, a3, a4, a5, a6, a7, a8] (.int (x + y) :: st) bc bs hp Q := Go_next (i := .iadd) rfl rfl
set_option maxRecDepth 100000 in
theorem sL_law_1311 {x : Nat} {i : Int32} : Go kL_law 1311 [a0, a1, a2, a3, a4, a5, a6, a7, a8] (.int i :: .ref x :: st) bc bs hp Q ↔ RdA hp x 0 i (fun v => Go kL_law 1312 [a0, a1, a2, a3, a4, a5, a6, a7, a8] (.int v :: st) bc bs hp Q) := Go_iald rfl
set_option maxRecDepth 100000 in
theorem sL_law_1312 {x : Nat} : Go kL_law 1312 [(.ref x), a1, a2, a3, a4, a5, a6, a7, a8] st bc bs hp Q ↔ Go kL_law 1313 [(.ref x), a1, a2, a3, a4, a5, a6, a7, a8] (.ref x :: st) bc bs hp Q := Go_next (i := .aload_n 0) rfl rfl
set_option maxRecDepth 100000 in
theorem sL_law_1313 {x : Int32} : Go kL_law 1313 [a0, a1, a2, a3, a4, (.int x), a6, a7, a8] st bc bs hp Q ↔ Go kL_law 1315 [a0, a1, a2, a3, a4, (.int x), a6, a7, a8] (.int x :: st) bc bs hp Q := Go_next (i := .iload 5) rfl rfl
set_option maxRecDepth 100000 in
theorem sL_law_1315 : Go kL_law 1315 [a0, a1, a2, a3, a4, a5, a6, a7, a8] st bc bs hp Q ↔ Go kL_law 1316 [a0, a1, a2, a3, a4, a5, a6, a7, a8] (.int 2 :: st) bc bs hp Q := Go_next (i := .iconst 2) rfl rfl
set_option maxRecDepth 100000 in
theorem sL_law_1316 {x y : Int32} : Go kL_law 1316 [a0, a1, a2, a3, a4, a5, a6, a7, a8] (.int y :: .int x :: st) bc bs hp Q ↔ Go kL_law 1317 [a0, a1, a2, a3, a4, a5, a6, a7, a8] (.int (x + y) :: st) bc bs hp Q := Go_next (i := .iadd) rfl rfl
set_option maxRecDepth 100000 in
theorem sL_law_1317 {x : Nat} {i : Int32} : Go kL_law 1317 [a0, a1, a2, a3, a4, a5, a6, a7, a8] (.int i :: .ref x :: st) bc bs hp Q ↔ RdA hp x 0 i (fun v => Go kL_law 1318 [a0, a1, a2, a3, a4, a5, a6, a7, a8] (.int v :: st) bc bs hp Q) := Go_iald rfl
set_option maxRecDepth 100000 in
theorem sL_law_1318 {x : Nat} : Go kL_law 1318 [(.ref x), a1, a2, a3, a4, a5, a6, a7, a8] st bc bs hp Q ↔ Go kL_law 1319 [(.ref x), a1, a2, a3, a4, a5, a6, a7, a8] (.ref x :: st) bc bs hp Q := Go_next (i := .aload_n 0) rfl rfl
set_option maxRecDepth 100000 in
theorem sL_law_1319 {x : Int32} : Go kL_law 1319 [a0, a1, a2, a3, a4, (.int x), a6, a7, a8] st bc bs hp Q ↔ Go kL_law 1321 [a0, a1, a2, a3, a4, (.int x), a6, a7, a8] (.int x :: st) bc bs hp Q := Go_next (i := .iload 5) rfl rfl
set_option maxRecDepth 100000 in
theorem sL_law_1321 : Go kL_law 1321 [a0, a1, a2, a3, a4, a5, a6, a7, a8] st bc bs hp Q ↔ Go kL_law 1322 [a0, a1, a2, a3, a4, a5, a6, a7, a8] (.int 3 :: st) bc bs hp Q := Go_next (i := .iconst 3) rfl rfl
set_option maxRecDepth 100000 in
theorem sL_law_1322 {x y : Int32} : Go kL_law 1322 [a0, a1, a2, a3, a4, a5, a6, a7, a8] (.int y :: .int x :: st) bc bs hp Q ↔ Go kL_law 1323 [a0, a1, a2, a3, a4, a5, a6, a7, a8] (.int (x + y) :: st) bc bs hp Q := Go_next (i := .iadd) rfl rfl
set_option maxRecDepth 100000 in
theorem sL_law_1323 {x : Nat} {i : Int32} : Go kL_law 1323 [a0, a1, a2, a3, a4, a5, a6, a7, a8] (.int i :: .ref x :: st) bc bs hp Q ↔ RdA hp x 0 i (fun v => Go kL_law 1324 [a0, a1, a2, a3, a4, a5, a6, a7, a8] (.int v :: st) bc bs hp Q) := Go_iald rfl
set_option maxRecDepth 100000 in
theorem sL_law_1324 {x : Int32} : Go kL_law 1324 [a0, a1, a2, a3, a4, a5, a6, a7, a8] (.int x :: st) bc bs hp Q ↔ (x = 0 → Go kL_law 1331 [a0, a1, a2, a3, a4, a5, a6, a7, a8] st bc bs hp Q) ∧ (¬ x = 0 → Go kL_law 1327 [a0, a1, a2, a3, a4, a5, a6, a7, a8] st bc bs hp Q) := Go_ift (c := x = 0) (i := .ifCond .eq 7) rfl rfl
set_option maxRecDepth 100000 in
theorem sL_law_1327 : Go kL_law 1327 [a0, a1, a2, a3, a4, a5, a6, a7, a8] st bc bs hp Q ↔ Go kL_law 1328 [a0, a1, a2, a3, a4, a5, a6, a7, a8] (.int 1 :: st) bc bs hp Q := Go_next (i := .iconst 1) rfl rfl
set_option maxRecDepth 100000 in
theorem sL_law_1328 : Go kL_law 1328 [a0, a1, a2, a3, a4, a5, a6, a7, a8] st bc bs hp Q ↔ Go kL_law 1332 [a0, a1, a2, a3, a4, a5, a6, a7, a8] st bc bs hp Q := Go_next (i := .goto 4) rfl rfl
set_option maxRecDepth 100000 in
theorem sL_law_1331 : Go kL_law 1331 [a0, a1, a2, a3, a4, a5, a6, a7, a8] st bc bs hp Q ↔ Go kL_law 1332 [a0, a1, a2, a3, a4, a5, a6, a7, a8] (.int 0 :: st) bc bs hp Q := Go_next (i := .iconst 0) rfl rfl
set_option maxRecDepth 100000 in
theorem sL_law_1332 {x : Nat} : Go kL_law 1332 [a0, a1, a2, (.ref x), a4, a5, a6, a7, a8] st bc bs hp Q ↔ Go kL_law 1333 [a0, a1, a2, (.ref x), a4, a5, a6, a7, a8] (.ref x :: st) bc bs hp Q := Go_next (i := .aload_n 3) rfl rfl
set_option maxRecDepth 100000 in
theorem sL_law_1333 {p0 : Nat} {p1 : Int32} {p2 : Int32} {p3 : Int32} {p4 : Nat} : Go kL_law 1333 [a0, a1, a2, a3, a4, a5, a6, a7, a8] (.ref p4 :: .int p3 :: .int p2 :: .int p1 :: .ref p0 :: st) bc bs hp Q ↔ (2 ≤ bc ∧ 12 ≤ bs ∧ nsum st ≤ 8) ∧ Call kL_setAssert [.ref p0, .int p1, .int p2, .int p3, .ref p4] hp (Aft kL_law 1336 [a0, a1, a2, a3, a4, a5, a6, a7, a8] st (bc - 2) (bs - 12) Q) := Go_inv (i := .invokestatic 214) rfl rfl rfl rfl rfl rfl
set_option maxRecDepth 100000 in
theorem sL_law_1336 {x : Int32} (hj : a5.category = 1) : Go kL_law 1336 [a0, a1, a2, a3, a4, a5, a6, a7, a8] (.int x :: st) bc bs hp Q ↔ Go kL_law 1338 [a0, a1, a2, a3, a4, a5, (.int x), a7, a8] st bc bs hp Q := Go_sto (i := .istore 6) (j := 6) (v := .int x) rfl rfl (Nat.le_of_ble_eq_true rfl) (decide_eq_true hj) rfl
set_option maxRecDepth 100000 in
theorem sL_law_1338 {x : Nat} : Go kL_law 1338 [a0, a1, (.ref x), a3, a4, a5, a6, a7, a8] st bc bs hp Q ↔ Go kL_law 1339 [a0, a1, (.ref x), a3, a4, a5, a6, a7, a8] (.ref x :: st) bc bs hp Q := Go_next (i := .aload_n 2) rfl rfl
set_option maxRecDepth 100000 in
theorem sL_law_1339 {x : Nat} : Go kL_law 1339 [(.ref x), a1, a2, a3, a4, a5, a6, a7, a8] st bc bs hp Q ↔ Go kL_law 1340 [(.ref x), a1, a2, a3, a4, a5, a6, a7, a8] (.ref x :: st) bc bs hp Q := Go_next (i := .aload_n 0) rfl rfl
set_option maxRecDepth 100000 in
theorem sL_law_1340 {x : Int32} : Go kL_law 1340 [a0, a1, a2, a3, a4, (.int x), a6, a7, a8] st bc bs hp Q ↔ Go kL_law 1342 [a0, a1, a2, a3, a4, (.int x), a6, a7, a8] (.int x :: st) bc bs hp Q := Go_next (i := .iload 5) rfl rfl
set_option maxRecDepth 100000 in
theorem sL_law_1342 : Go kL_law 1342 [a0, a1, a2, a3, a4, a5, a6, a7, a8] st bc bs hp Q ↔ Go kL_law 1343 [a0, a1, a2, a3, a4, a5, a6, a7, a8] (.int 1 :: st) bc bs hp Q := Go_next (i := .iconst 1) rfl rfl
set_option maxRecDepth 100000 in
theorem sL_law_1343 {x y : Int32} : Go kL_law 1343 [a0, a1, a2, a3, a4, a5, a6, a7, a8] (.int y :: .int x :: st) bc bs hp Q ↔ Go kL_law 1344 [a0, a1, a2, a3, a4, a5, a6, a7, a8] (.int (x + y) :: st) bc bs hp Q := Go_next (i := .iadd) rfl rfl
set_option maxRecDepth 100000 in
theorem sL_law_1344 {x : Nat} {i : Int32} : Go kL_law 1344 [a0, a1, a2, a3, a4, a5, a6, a7, a8] (.int i :: .ref x :: st) bc bs hp Q ↔ RdA hp x 0 i (fun v => Go kL_law 1345 [a0, a1, a2, a3, a4, a5, a6, a7, a8] (.int v :: st) bc bs hp Q) := Go_iald rfl
set_option maxRecDepth 100000 in
theorem sL_law_1345 {x : Nat} : Go kL_law 1345 [(.ref x), a1, a2, a3, a4, a5, a6, a7, a8] st bc bs hp Q ↔ Go kL_law 1346 [(.ref x), a1, a2, a3, a4, a5, a6, a7, a8] (.ref x :: st) bc bs hp Q := Go_next (i := .aload_n 0) rfl rfl
set_option maxRecDepth 100000 in
theorem sL_law_1346 {x : Int32} : Go kL_law 1346 [a0, a1, a2, a3, a4, (.int x), a6, a7, a8] st bc bs hp Q ↔ Go kL_law 1348 [a0, a1, a2, a3, a4, (.int x), a6, a7, a8] (.int x :: st) bc bs hp Q := Go_next (i := .iload 5) rfl rfl
set_option maxRecDepth 100000 in
theorem sL_law_1348 : Go kL_law 1348 [a0, a1, a2, a3, a4, a5, a6, a7, a8] st bc bs hp Q ↔ Go kL_law 1349 [a0, a1, a2, a3, a4, a5, a6, a7, a8] (.int 2 :: st) bc bs hp Q := Go_next (i := .iconst 2) rfl rfl
set_option maxRecDepth 100000 in
theorem sL_law_1349 {x y : Int32} : Go kL_law 1349 [a0, a1, a2, a3, a4, a5, a6, a7, a8] (.int y :: .int x :: st) bc bs hp Q ↔ Go kL_law 1350 [a0, a1, a2, a3, a4, a5, a6, a7, a8] (.int (x + y) :: st) bc bs hp Q := Go_next (i := .iadd) rfl rfl
set_option maxRecDepth 100000 in
theorem sL_law_1350 {x : Nat} {i : Int32} : Go kL_law 1350 [a0, a1, a2, a3, a4, a5, a6, a7, a8] (.int i :: .ref x :: st) bc bs hp Q ↔ RdA hp x 0 i (fun v => Go kL_law 1351 [a0, a1, a2, a3, a4, a5, a6, a7, a8] (.int v :: st) bc bs hp Q) := Go_iald rfl
set_option maxRecDepth 100000 in
theorem sL_law_1351 {x : Nat} : Go kL_law 1351 [(.ref x), a1, a2, a3, a4, a5, a6, a7, a8] st bc bs hp Q ↔ Go kL_law 1352 [(.ref x), a1, a2, a3, a4, a5, a6, a7, a8] (.ref x :: st) bc bs hp Q := Go_next (i := .aload_n 0) rfl rfl
set_option maxRecDepth 100000 in
theorem sL_law_1352 {x : Int32} : Go kL_law 1352 [a0, a1, a2, a3, a4, (.int x), a6, a7, a8] st bc bs hp Q ↔ Go kL_law 1354 [a0, a1, a2, a3, a4, (.int x), a6, a7, a8] (.int x :: st) bc bs hp Q := Go_next (i := .iload 5) rfl rfl
set_option maxRecDepth 100000 in
theorem sL_law_1354 : Go kL_law 1354 [a0, a1, a2, a3, a4, a5, a6, a7, a8] st bc bs hp Q ↔ Go kL_law 1355 [a0, a1, a2, a3, a4, a5, a6, a7, a8] (.int 3 :: st) bc bs hp Q := Go_next (i := .iconst 3) rfl rfl
set_option maxRecDepth 100000 in
theorem sL_law_1355 {x y : Int32} : Go kL_law 1355 [a0, a1, a2, a3, a4, a5, a6, a7, a8] (.int y :: .int x :: st) bc bs hp Q ↔ Go kL_law 1356 [a0, a1, a2, a3, a4, a5, a6, a7, a8] (.int (x + y) :: st) bc bs hp Q := Go_next (i := .iadd) rfl rfl
set_option maxRecDepth 100000 in
theorem sL_law_1356 {x : Nat} {i : Int32} : Go kL_law 1356 [a0, a1, a2, a3, a4, a5, a6, a7, a8] (.int i :: .ref x :: st) bc bs hp Q ↔ RdA hp x 0 i (fun v => Go kL_law 1357 [a0, a1, a2, a3, a4, a5, a6, a7, a8] (.int v :: st) bc bs hp Q) := Go_iald rfl
set_option maxRecDepth 100000 in
theorem sL_law_1357 {x : Int32} : Go kL_law 1357 [a0, a1, a2, a3, a4, a5, a6, a7, a8] (.int x :: st) bc bs hp Q ↔ (x = 0 → Go kL_law 1364 [a0, a1, a2, a3, a4, a5, a6, a7, a8] st bc bs hp Q) ∧ (¬ x = 0 → Go kL_law 1360 [a0, a1, a2, a3, a4, a5, a6, a7, a8] st bc bs hp Q) := Go_ift (c := x = 0) (i := .ifCond .eq 7) rfl rfl
set_option maxRecDepth 100000 in
theorem sL_law_1360 : Go kL_law 1360 [a0, a1, a2, a3, a4, a5, a6, a7, a8] st bc bs hp Q ↔ Go kL_law 1361 [a0, a1, a2, a3, a4, a5, a6, a7, a8] (.int 1 :: st) bc bs hp Q := Go_next (i := .iconst 1) rfl rfl
set_option maxRecDepth 100000 in
theorem sL_law_1361 : Go kL_law 1361 [a0, a1, a2, a3, a4, a5, a6, a7, a8] st bc bs hp Q ↔ Go kL_law 1365 [a0, a1, a2, a3, a4, a5, a6, a7, a8] st bc bs hp Q := Go_next (i := .goto 4) rfl rfl
set_option maxRecDepth 100000 in
theorem sL_law_1364 : Go kL_law 1364 [a0, a1, a2, a3, a4, a5, a6, a7, a8] st bc bs hp Q ↔ Go kL_law 1365 [a0, a1, a2, a3, a4, a5, a6, a7, a8] (.int 0 :: st) bc bs hp Q := Go_next (i := .iconst 0) rfl rfl
set_option maxRecDepth 100000 in
theorem sL_law_1365 {p0 : Int32} {p1 : Int32} {p2 : Int32} {x : Nat} : Go kL_law 1365 [a0, a1, a2, a3, a4, a5, a6, a7, a8] (.int p2 :: .int p1 :: .int p0 :: .ref x :: st) bc bs hp Q ↔ Rcv hp x 8 ∧ nsum st ≤ 8 ∧ Call kX8_setAssert [.ref x, .int p0, .int p1, .int p2] hp (Aft kL_law 1368 [a0, a1, a2, a3, a4, a5, a6, a7, a8] st bc bs Q) := Go_invV0 rfl rfl rfl rfl rfl rfl rfl rfl rfl rfl
set_option maxRecDepth 100000 in
theorem sL_law_1368 {x : Int32} (hj : a6.category = 1) : Go kL_law 1368 [a0, a1, a2, a3, a4, a5, a6, a7, a8] (.int x :: st) bc bs hp Q ↔ Go kL_law 1370 [a0, a1, a2, a3, a4, a5, a6, (.int x), a8] st bc bs hp Q := Go_sto (i := .istore 7) (j := 7) (v := .int x) rfl rfl (Nat.le_of_ble_eq_true rfl) (decide_eq_true hj) rfl
set_option maxRecDepth 100000 in
theorem sL_law_1370 {x : Nat} : Go kL_law 1370 [a0, a1, (.ref x), a3, a4, a5, a6, a7, a8] st bc bs hp Q ↔ Go kL_law 1371 [a0, a1, (.ref x), a3, a4, a5, a6, a7, a8] (.ref x :: st) bc bs hp Q := Go_next (i := .aload_n 2) rfl rfl
set_option maxRecDepth 100000 in
theorem sL_law_1371 {x : Nat} : Go kL_law 1371 [a0, a1, a2, a3, a4, a5, a6, a7, a8] (.ref x :: st) bc bs hp Q ↔ Rcv hp x 8 ∧ nsum st ≤ 8 ∧ Call kX8_thrown [.ref x] hp (Aft kL_law 1374 [a0, a1, a2, a3, a4, a5, a6, a7, a8] st bc bs Q) := Go_invV0 rfl rfl rfl rfl rfl rfl rfl rfl rfl rfl
set_option maxRecDepth 100000 in
theorem sL_law_1374 {x : Int32} : Go kL_law 1374 [a0, a1, a2, a3, a4, a5, (.int x), a7, a8] st bc bs hp Q ↔ Go kL_law 1376 [a0, a1, a2, a3, a4, a5, (.int x), a7, a8] (.int x :: st) bc bs hp Q := Go_next (i := .iload 6) rfl rfl
set_option maxRecDepth 100000 in
theorem sL_law_1376 {x y : Int32} : Go kL_law 1376 [a0, a1, a2, a3, a4, a5, a6, a7, a8] (.int y :: .int x :: st) bc bs hp Q ↔ (x = y → Go kL_law 1381 [a0, a1, a2, a3, a4, a5, a6, a7, a8] st bc bs hp Q) ∧ (¬ x = y → Go kL_law 1379 [a0, a1, a2, a3, a4, a5, a6, a7, a8] st bc bs hp Q) := Go_ift (c := x = y) (i := .if_icmp .eq 5) rfl rfl
set_option maxRecDepth 100000 in
theorem sL_law_1379 : Go kL_law 1379 [a0, a1, a2, a3, a4, a5, a6, a7, a8] st bc bs hp Q ↔ Go kL_law 1380 [a0, a1, a2, a3, a4, a5, a6, a7, a8] (.int 0 :: st) bc bs hp Q := Go_next (i := .iconst 0) rfl rfl
set_option maxRecDepth 100000 in
theorem sL_law_1380 {x : Int32} : Go kL_law 1380 [a0, a1, a2, a3, a4, a5, a6, a7, a8] [.int x] bc bs hp Q ↔ outI kL_law x = true ∧ Q (.inl (some (.int x))) hp := Go_retIf (i := .ireturn) rfl rfl
set_option maxRecDepth 100000 in
theorem sL_law_1381 {x : Int32} : Go kL_law 1381 [a0, a1, a2, a3, a4, a5, (.int x), a7, a8] st bc bs hp Q ↔ Go kL_law 1383 [a0, a1, a2, a3, a4, a5, (.int x), a7, a8] (.int x :: st) bc bs hp Q := Go_next (i := .iload 6) rfl rfl
set_option maxRecDepth 100000 in
theorem sL_law_1383 {x : Int32} : Go kL_law 1383 [a0, a1, a2, a3, a4, a5, a6, a7, a8] (.int x :: st) bc bs hp Q ↔ (¬ x = 0 → Go kL_law 1405 [a0, a1, a2, a3, a4, a5, a6, a7, a8] st bc bs hp Q) ∧ (x = 0 → Go kL_law 1386 [a0, a1, a2, a3, a4, a5, a6, a7, a8] st bc bs hp Q) := Go_ifn (c := x = 0) (i := .ifCond .ne 22) rfl rfl
set_option maxRecDepth 100000 in
theorem sL_law_1386 {x : Nat} : Go kL_law 1386 [a0, a1, a2, (.ref x), a4, a5, a6, a7, a8] st bc bs hp Q ↔ Go kL_law 1387 [a0, a1, a2, (.ref x), a4, a5, a6, a7, a8] (.ref x :: st) bc bs hp Q := Go_next (i := .aload_n 3) rfl rfl
set_option maxRecDepth 100000 in
theorem sL_law_1387 : Go kL_law 1387 [a0, a1, a2, a3, a4, a5, a6, a7, a8] st bc bs hp Q ↔ Go kL_law 1388 [a0, a1, a2, a3, a4, a5, a6, a7, a8] (.int 0 :: st) bc bs hp Q := Go_next (i := .iconst 0) rfl rfl
set_option maxRecDepth 100000 in
theorem sL_law_1388 {x : Nat} {i : Int32} : Go kL_law 1388 [a0, a1, a2, a3, a4, a5, a6, a7, a8] (.int i :: .ref x :: st) bc bs hp Q ↔ RdL hp x i (fun v => Go kL_law 1389 [a0, a1, a2, a3, a4, a5, a6, a7, a8] (.long v :: st) bc bs hp Q) := Go_lald rfl
set_option maxRecDepth 100000 in
theorem sL_law_1389 {x : Int32} : Go kL_law 1389 [a0, a1, a2, a3, a4, a5, a6, (.int x), a8] st bc bs hp Q ↔ Go kL_law 1391 [a0, a1, a2, a3, a4, a5, a6, (.int x), a8] (.int x :: st) bc bs hp Q := Go_next (i := .iload 7) rfl rfl
set_option maxRecDepth 100000 in
theorem sL_law_1391 {x : Int32} : Go kL_law 1391 [a0, a1, a2, a3, a4, a5, a6, a7, a8] (.int x :: st) bc bs hp Q ↔ (x = 0 → Go kL_law 1398 [a0, a1, a2, a3, a4, a5, a6, a7, a8] st bc bs hp Q) ∧ (¬ x = 0 → Go kL_law 1394 [a0, a1, a2, a3, a4, a5, a6, a7, a8] st bc bs hp Q) := Go_ift (c := x = 0) (i := .ifCond .eq 7) rfl rfl
set_option maxRecDepth 100000 in
theorem sL_law_1394 : Go kL_law 1394 [a0, a1, a2, a3, a4, a5, a6, a7, a8] st bc bs hp Q ↔ Go kL_law 1395 [a0, a1, a2, a3, a4, a5, a6, a7, a8] (.long 1 :: st) bc bs hp Q := Go_next (i := .lconst 1) rfl rfl
set_option maxRecDepth 100000 in
theorem sL_law_1395 : Go kL_law 1395 [a0, a1, a2, a3, a4, a5, a6, a7, a8] st bc bs hp Q ↔ Go kL_law 1399 [a0, a1, a2, a3, a4, a5, a6, a7, a8] st bc bs hp Q := Go_next (i := .goto 4) rfl rfl
set_option maxRecDepth 100000 in
theorem sL_law_1398 : Go kL_law 1398 [a0, a1, a2, a3, a4, a5, a6, a7, a8] st bc bs hp Q ↔ Go kL_law 1399 [a0, a1, a2, a3, a4, a5, a6, a7, a8] (.long 0 :: st) bc bs hp Q := Go_next (i := .lconst 0) rfl rfl
set_option maxRecDepth 100000 in
theorem sL_law_1399 {x y : Int64} : Go kL_law 1399 [a0, a1, a2, a3, a4, a5, a6, a7, a8] (.long y :: .long x :: st) bc bs hp Q ↔ Go kL_law 1400 [a0, a1, a2, a3, a4, a5, a6, a7, a8] (.int (lg_cmp x y) :: st) bc bs hp Q := Go_next (i := .lcmp) rfl rfl
set_option maxRecDepth 100000 in
theorem sL_law_1400 {x : Int32} : Go kL_law 1400 [a0, a1, a2, a3, a4, a5, a6, a7, a8] (.int x :: st) bc bs hp Q ↔ (x = 0 → Go kL_law 1405 [a0, a1, a2, a3, a4, a5, a6, a7, a8] st bc bs hp Q) ∧ (¬ x = 0 → Go kL_law 1403 [a0, a1, a2, a3, a4, a5, a6, a7, a8] st bc bs hp Q) := Go_ift (c := x = 0) (i := .ifCond .eq 5) rfl rfl
set_option maxRecDepth 100000 in
theorem sL_law_1403 : Go kL_law 1403 [a0, a1, a2, a3, a4, a5, a6, a7, a8] st bc bs hp Q ↔ Go kL_law 1404 [a0, a1, a2, a3, a4, a5, a6, a7, a8] (.int 0 :: st) bc bs hp Q := Go_next (i := .iconst 0) rfl rfl
set_option maxRecDepth 100000 in
theorem sL_law_1404 {x : Int32} : Go kL_law 1404 [a0, a1, a2, a3, a4, a5, a6, a7, a8] [.int x] bc bs hp Q ↔ outI kL_law x = true ∧ Q (.inl (some (.int x))) hp := Go_retIf (i := .ireturn) rfl rfl
set_option maxRecDepth 100000 in
theorem sL_law_1405 : Go kL_law 1405 [a0, a1, a2, a3, a4, a5, a6, a7, a8] st bc bs hp Q ↔ Go kL_law 3086 [a0, a1, a2, a3, a4, a5, a6, a7, a8] st bc bs hp Q := Go_next (i := .goto 1681) rfl rfl
set_option maxRecDepth 100000 in
theorem sL_law_1408 {x : Nat} : Go kL_law 1408 [a0, (.ref x), a2, a3, a4, a5, a6, a7, a8] st bc bs hp Q ↔ Go kL_law 1409 [a0, (.ref x), a2, a3, a4, a5, a6, a7, a8] (.ref x :: st) bc bs hp Q := Go_next (i := .aload_n 1) rfl rfl
set_option maxRecDepth 100000 in
theorem sL_law_1409 {x : Nat} : Go kL_law 1409 [(.ref x), a1, a2, a3, a4, a5, a6, a7, a8] st bc bs hp Q ↔ Go kL_law 1410 [(.ref x), a1, a2, a3, a4, a5, a6, a7, a8] (.ref x :: st) bc bs hp Q := Go_next (i := .aload_n 0) rfl rfl
set_option maxRecDepth 100000 in
theorem sL_law_1410 {x : Int32} : Go kL_law 1410 [a0, a1, a2, a3, a4, (.int x), a6, a7, a8] st bc bs hp Q ↔ Go kL_law 1412 [a0, a1, a2, a3, a4, (.int x), a6, a7, a8] (.int x :: st) bc bs hp Q := Go_next (i := .iload 5) rfl rfl
set_option maxRecDepth 100000 in
theorem sL_law_1412 : Go kL_law 1412 [a0, a1, a2, a3, a4, a5, a6, a7, a8] st bc bs hp Q ↔ Go kL_law 1413 [a0, a1, a2, a3, a4, a5, a6, a7, a8] (.int 1 :: st) bc bs hp Q := Go_next (i := .iconst 1) rfl rfl
set_option maxRecDepth 100000 in
theorem sL_law_1413 {x y : Int32} : Go kL_law 1413 [a0, a1, a2, a3, a4, a5, a6, a7, a8] (.int y :: .int x :: st) bc bs hp Q ↔ Go kL_law 1414 [a0, a1, a2, a3, a4, a5, a6, a7, a8] (.int (x + y) :: st) bc bs hp Q := Go_next (i := .iadd) rfl rfl
set_option maxRecDepth 100000 in
theorem sL_law_1414 {x : Nat} {i : Int32} : Go kL_law 1414 [a0, a1, a2, a3, a4, a5, a6, a7, a8] (.int i :: .ref x :: st) bc bs hp Q ↔ RdA hp x 0 i (fun v => Go kL_law 1415 [a0, a1, a2, a3, a4, a5, a6, a7, a8] (.int v :: st) bc bs hp Q) := Go_iald rfl
set_option maxRecDepth 100000 in
theorem sL_law_1415 {x : Nat} : Go kL_law 1415 [(.ref x), a1, a2, a3, a4, a5, a6, a7, a8] st bc bs hp Q ↔ Go kL_law 1416 [(.ref x), a1, a2, a3, a4, a5, a6, a7, a8] (.ref x :: st) bc bs hp Q := Go_next (i := .aload_n 0) rfl rfl
set_option maxRecDepth 100000 in
theorem sL_law_1416 {x : Int32} : Go kL_law 1416 [a0, a1, a2, a3, a4, (.int x), a6, a7, a8] st bc bs hp Q ↔ Go kL_law 1418 [a0, a1, a2, a3, a4, (.int x), a6, a7, a8] (.int x :: st) bc bs hp Q := Go_next (i := .iload 5) rfl rfl
set_option maxRecDepth 100000 in
theorem sL_law_1418 : Go kL_law 1418 [a0, a1, a2, a3, a4, a5, a6, a7, a8] st bc bs hp Q ↔ Go kL_law 1419 [a0, a1, a2, a3, a4, a5, a6, a7, a8] (.int 2 :: st) bc bs hp Q := Go_next (i := .iconst 2) rfl rfl
set_option maxRecDepth 100000 in
theorem sL_law_1419 {x y : Int32} : Go kL_law 1419 [a0, a1, a2, a3, a4, a5, a6, a7, a8] (.int y :: .int x :: st) bc bs hp Q ↔ Go kL_law 1420 [a0, a1, a2, a3, a4, a5, a6, a7, a8] (.int (x + y) :: st) bc bs hp Q := Go_next (i := .iadd) rfl rfl
set_option maxRecDepth 100000 in
theorem sL_law_1420 {x : Nat} {i : Int32} : Go kL_law 1420 [a0, a1, a2, a3, a4, a5, a6, a7, a8] (.int i :: .ref x :: st) bc bs hp Q ↔ RdA hp x 0 i (fun v => Go kL_law 1421 [a0, a1, a2, a3, a4, a5, a6, a7, a8] (.int v :: st) bc bs hp Q) := Go_iald rfl
set_option maxRecDepth 100000 in
theorem sL_law_1421 {x : Nat} : Go kL_law 1421 [a0, a1, a2, (.ref x), a4, a5, a6, a7, a8] st bc bs hp Q ↔ Go kL_law 1422 [a0, a1, a2, (.ref x), a4, a5, a6, a7, a8] (.ref x :: st) bc bs hp Q := Go_next (i := .aload_n 3) rfl rfl
set_option maxRecDepth 100000 in
theorem sL_law_1422 {p0 : Nat} {p1 : Int32} {p2 : Int32} {p3 : Nat} : Go kL_law 1422 [a0, a1, a2, a3, a4, a5, a6, a7, a8] (.ref p3 :: .int p2 :: .int p1 :: .ref p0 :: st) bc bs hp Q ↔ (2 ≤ bc ∧ 12 ≤ bs ∧ nsum st ≤ 8) ∧ Call kL_setMaster [.ref p0, .int p1, .int p2, .ref p3] hp (Aft kL_law 1425 [a0, a1, a2, a3, a4, a5, a6, a7, a8] st (bc - 2) (bs - 12) Q) := Go_inv (i := .invokestatic 218) rfl rfl rfl rfl rfl rfl
set_option maxRecDepth 100000 in
theorem sL_law_1425 {x : Int32} (hj : a5.category = 1) : Go kL_law 1425 [a0, a1, a2, a3, a4, a5, a6, a7, a8] (.int x :: st) bc bs hp Q ↔ Go kL_law 1427 [a0, a1, a2, a3, a4, a5, (.int x), a7, a8] st bc bs hp Q := Go_sto (i := .istore 6) (j := 6) (v := .int x) rfl rfl (Nat.le_of_ble_eq_true rfl) (decide_eq_true hj) rfl
set_option maxRecDepth 100000 in
theorem sL_law_1427 {x : Nat} : Go kL_law 1427 [a0, a1, (.ref x), a3, a4, a5, a6, a7, a8] st bc bs hp Q ↔ Go kL_law 1428 [a0, a1, (.ref x), a3, a4, a5, a6, a7, a8] (.ref x :: st) bc bs hp Q := Go_next (i := .aload_n 2) rfl rfl
set_option maxRecDepth 100000 in
theorem sL_law_1428 {x : Nat} : Go kL_law 1428 [(.ref x), a1, a2, a3, a4, a5, a6, a7, a8] st bc bs hp Q ↔ Go kL_law 1429 [(.ref x), a1, a2, a3, a4, a5, a6, a7, a8] (.ref x :: st) bc bs hp Q := Go_next (i := .aload_n 0) rfl rfl
set_option maxRecDepth 100000 in
theorem sL_law_1429 {x : Int32} : Go kL_law 1429 [a0, a1, a2, a3, a4, (.int x), a6, a7, a8] st bc bs hp Q ↔ Go kL_law 1431 [a0, a1, a2, a3, a4, (.int x), a6, a7, a8] (.int x :: st) bc bs hp Q := Go_next (i := .iload 5) rfl rfl
set_option maxRecDepth 100000 in
theorem sL_law_1431 : Go kL_law 1431 [a0, a1, a2, a3, a4, a5, a6, a7, a8] st bc bs hp Q ↔ Go kL_law 1432 [a0, a1, a2, a3, a4, a5, a6, a7, a8] (.int 1 :: st) bc bs hp Q := Go_next (i := .iconst 1) rfl rfl
set_option maxRecDepth 100000 in
theorem sL_law_1432 {x y : Int32} : Go kL_law 1432 [a0, a1, a2, a3, a4, a5, a6, a7, a8] (.int y :: .int x :: st) bc bs hp Q ↔ Go kL_law 1433 [a0, a1, a2, a3, a4, a5, a6, a7, a8] (.int (x + y) :: st) bc bs hp Q := Go_next (i := .iadd) rfl rfl
set_option maxRecDepth 100000 in
theorem sL_law_1433 {x : Nat} {i : Int32} : Go kL_law 1433 [a0, a1, a2, a3, a4, a5, a6, a7, a8] (.int i :: .ref x :: st) bc bs hp Q ↔ RdA hp x 0 i (fun v => Go kL_law 1434 [a0, a1, a2, a3, a4, a5, a6, a7, a8] (.int v :: st) bc bs hp Q) := Go_iald rfl
set_option maxRecDepth 100000 in
theorem sL_law_1434 {x : Nat} : Go kL_law 1434 [(.ref x), a1, a2, a3, a4, a5, a6, a7, a8] st bc bs hp Q ↔ Go kL_law 1435 [(.ref x), a1, a2, a3, a4, a5, a6, a7, a8] (.ref x :: st) bc bs hp Q := Go_next (i := .aload_n 0) rfl rfl
set_option maxRecDepth 100000 in
theorem sL_law_1435 {x : Int32} : Go kL_law 1435 [a0, a1, a2, a3, a4, (.int x), a6, a7, a8] st bc bs hp Q ↔ Go kL_law 1437 [a0, a1, a2, a3, a4, (.int x), a6, a7, a8] (.int x :: st) bc bs hp Q := Go_next (i := .iload 5) rfl rfl
set_option maxRecDepth 100000 in
theorem sL_law_1437 : Go kL_law 1437 [a0, a1, a2, a3, a4, a5, a6, a7, a8] st bc bs hp Q ↔ Go kL_law 1438 [a0, a1, a2, a3, a4, a5, a6, a7, a8] (.int 2 :: st) bc bs hp Q := Go_next (i := .iconst 2) rfl rfl
set_option maxRecDepth 100000 in
theorem sL_law_1438 {x y : Int32} : Go kL_law 1438 [a0, a1, a2, a3, a4, a5, a6, a7, a8] (.int y :: .int x :: st) bc bs hp Q ↔ Go kL_law 1439 [a0, a1, a2, a3, a4, a5, a6, a7, a8] (.int (x + y) :: st) bc bs hp Q := Go_next (i := .iadd) rfl rfl
set_option maxRecDepth 100000 in
theorem sL_law_1439 {x : Nat} {i : Int32} : Go kL_law 1439 [a0, a1, a2, a3, a4, a5, a6, a7, a8] (.int i :: .ref x :: st) bc bs hp Q ↔ RdA hp x 0 i (fun v => Go kL_law 1440 [a0, a1, a2, a3, a4, a5, a6, a7, a8] (.int v :: st) bc bs hp Q) := Go_iald rfl
set_option maxRecDepth 100000 in
theorem sL_law_1440 {p0 : Int32} {p1 : Int32} {x : Nat} : Go kL_law 1440 [a0, a1, a2, a3, a4, a5, a6, a7, a8] (.int p1 :: .int p0 :: .ref x :: st) bc bs hp Q ↔ Rcv hp x 8 ∧ nsum st ≤ 8 ∧ Call kX8_setMaster [.ref x, .int p0, .int p1] hp (Aft kL_law 1443 [a0, a1, a2, a3, a4, a5, a6, a7, a8] st bc bs Q) := Go_invV0 rfl rfl rfl rfl rfl rfl rfl rfl rfl rfl
set_option maxRecDepth 100000 in
theorem sL_law_1443 {x : Int32} (hj : a6.category = 1) : Go kL_law 1443 [a0, a1, a2, a3, a4, a5, a6, a7, a8] (.int x :: st) bc bs hp Q ↔ Go kL_law 1445 [a0, a1, a2, a3, a4, a5, a6, (.int x), a8] st bc bs hp Q := Go_sto (i := .istore 7) (j := 7) (v := .int x) rfl rfl (Nat.le_of_ble_eq_true rfl) (decide_eq_true hj) rfl
set_option maxRecDepth 100000 in
theorem sL_law_1445 {x : Nat} : Go kL_law 1445 [a0, a1, (.ref x), a3, a4, a5, a6, a7, a8] st bc bs hp Q ↔ Go kL_law 1446 [a0, a1, (.ref x), a3, a4, a5, a6, a7, a8] (.ref x :: st) bc bs hp Q := Go_next (i := .aload_n 2) rfl rfl
set_option maxRecDepth 100000 in
theorem sL_law_1446 {x : Nat} : Go kL_law 1446 [a0, a1, a2, a3, a4, a5, a6, a7, a8] (.ref x :: st) bc bs hp Q ↔ Rcv hp x 8 ∧ nsum st ≤ 8 ∧ Call kX8_thrown [.ref x] hp (Aft kL_law 1449 [a0, a1, a2, a3, a4, a5, a6, a7, a8] st bc bs Q) := Go_invV0 rfl rfl rfl rfl rfl rfl rfl rfl rfl rfl
set_option maxRecDepth 100000 in
theorem sL_law_1449 {x : Int32} : Go kL_law 1449 [a0, a1, a2, a3, a4, a5, (.int x), a7, a8] st bc bs hp Q ↔ Go kL_law 1451 [a0, a1, a2, a3, a4, a5, (.int x), a7, a8] (.int x :: st) bc bs hp Q := Go_next (i := .iload 6) rfl rfl
set_option maxRecDepth 100000 in
theorem sL_law_1451 {x y : Int32} : Go kL_law 1451 [a0, a1, a2, a3, a4, a5, a6, a7, a8] (.int y :: .int x :: st) bc bs hp Q ↔ (x = y → Go kL_law 1456 [a0, a1, a2, a3, a4, a5, a6, a7, a8] st bc bs hp Q) ∧ (¬ x = y → Go kL_law 1454 [a0, a1, a2, a3, a4, a5, a6, a7, a8] st bc bs hp Q) := Go_ift (c := x = y) (i := .if_icmp .eq 5) rfl rfl
set_option maxRecDepth 100000 in
theorem sL_law_1454 : Go kL_law 1454 [a0, a1, a2, a3, a4, a5, a6, a7, a8] st bc bs hp Q ↔ Go kL_law 1455 [a0, a1, a2, a3, a4, a5, a6, a7, a8] (.int 0 :: st) bc bs hp Q := Go_next (i := .iconst 0) rfl rfl
set_option maxRecDepth 100000 in
theorem sL_law_1455 {x : Int32} : Go kL_law 1455 [a0, a1, a2, a3, a4, a5, a6, a7, a8] [.int x] bc bs hp Q ↔ outI kL_law x = true ∧ Q (.inl (some (.int x))) hp := Go_retIf (i := .ireturn) rfl rfl
set_option maxRecDepth 100000 in
theorem sL_law_1456 {x : Int32} : Go kL_law 1456 [a0, a1, a2, a3, a4, a5, (.int x), a7, a8] st bc bs hp Q ↔ Go kL_law 1458 [a0, a1, a2, a3, a4, a5, (.int x), a7, a8] (.int x :: st) bc bs hp Q := Go_next (i := .iload 6) rfl rfl
set_option maxRecDepth 100000 in
theorem sL_law_1458 {x : Int32} : Go kL_law 1458 [a0, a1, a2, a3, a4, a5, a6, a7, a8] (.int x :: st) bc bs hp Q ↔ (¬ x = 0 → Go kL_law 1473 [a0, a1, a2, a3, a4, a5, a6, a7, a8] st bc bs hp Q) ∧ (x = 0 → Go kL_law 1461 [a0, a1, a2, a3, a4, a5, a6, a7, a8] st bc bs hp Q) := Go_ifn (c := x = 0) (i := .ifCond .ne 15) rfl rfl
set_option maxRecDepth 100000 in
theorem sL_law_1461 {x : Nat} : Go kL_law 1461 [a0, a1, a2, (.ref x), a4, a5, a6, a7, a8] st bc bs hp Q ↔ Go kL_law 1462 [a0, a1, a2, (.ref x), a4, a5, a6, a7, a8] (.ref x :: st) bc bs hp Q := Go_next (i := .aload_n 3) rfl rfl
set_option maxRecDepth 100000 in
theorem sL_law_1462 : Go kL_law 1462 [a0, a1, a2, a3, a4, a5, a6, a7, a8] st bc bs hp Q ↔ Go kL_law 1463 [a0, a1, a2, a3, a4, a5, a6, a7, a8] (.int 0 :: st) bc bs hp Q := Go_next (i := .iconst 0) rfl rfl
set_option maxRecDepth 100000 in
theorem sL_law_1463 {x : Nat} {i : Int32} : Go kL_law 1463 [a0, a1, a2, a3, a4, a5, a6, a7, a8] (.int i :: .ref x :: st) bc bs hp Q ↔ RdL hp x i (fun v => Go kL_law 1464 [a0, a1, a2, a3, a4, a5, a6, a7, a8] (.long v :: st) bc bs hp Q) := Go_lald rfl
set_option maxRecDepth 100000 in
theorem sL_law_1464 {x : Int32} : Go kL_law 1464 [a0, a1, a2, a3, a4, a5, a6, (.int x), a8] st bc bs hp Q ↔ Go kL_law 1466 [a0, a1, a2, a3, a4, a5, a6, (.int x), a8] (.int x :: st) bc bs hp Q := Go_next (i := .iload 7) rfl rfl
set_option maxRecDepth 100000 in
theorem sL_law_1466 {x : Int32} : Go kL_law 1466 [a0, a1, a2, a3, a4, a5, a6, a7, a8] (.int x :: st) bc bs hp Q ↔ Go kL_law 1467 [a0, a1, a2, a3, a4, a5, a6, a7, a8] (.long x.toInt64 :: st) bc bs hp Q := Go_next (i := .i2l) rfl rfl
set_option maxRecDepth 100000 in
theorem sL_law_1467 {x y : Int64} : Go kL_law 1467 [a0, a1, a2, a3, a4, a5, a6, a7, a8] (.long y :: .long x :: st) bc bs hp Q ↔ Go kL_law 1468 [a0, a1, a2, a3, a4, a5, a6, a7, a8] (.int (lg_cmp x y) :: st) bc bs hp Q := Go_next (i := .lcmp) rfl rfl
set_option maxRecDepth 100000 in
theorem sL_law_1468 {x : Int32} : Go kL_law 1468 [a0, a1, a2, a3, a4, a5, a6, a7, a8] (.int x :: st) bc bs hp Q ↔ (x = 0 → Go kL_law 1473 [a0, a1, a2, a3, a4, a5, a6, a7, a8] st bc bs hp Q) ∧ (¬ x = 0 → Go kL_law 1471 [a0, a1, a2, a3, a4, a5, a6, a7, a8] st bc bs hp Q) := Go_ift (c := x = 0) (i := .ifCond .eq 5) rfl rfl
set_option maxRecDepth 100000 in
theorem sL_law_1471 : Go kL_law 1471 [a0, a1, a2, a3, a4, a5, a6, a7, a8] st bc bs hp Q ↔ Go kL_law 1472 [a0, a1, a2, a3, a4, a5, a6, a7, a8] (.int 0 :: st) bc bs hp Q := Go_next (i := .iconst 0) rfl rfl
set_option maxRecDepth 100000 in
theorem sL_law_1472 {x : Int32} : Go kL_law 1472 [a0, a1, a2, a3, a4, a5, a6, a7, a8] [.int x] bc bs hp Q ↔ outI kL_law x = true ∧ Q (.inl (some (.int x))) hp := Go_retIf (i := .ireturn) rfl rfl
set_option maxRecDepth 100000 in
theorem sL_law_1473 : Go kL_law 1473 [a0, a1, a2, a3, a4, a5, a6, a7, a8] st bc bs hp Q ↔ Go kL_law 3086 [a0, a1, a2, a3, a4, a5, a6, a7, a8] st bc bs hp Q := Go_next (i := .goto 1613) rfl rfl
set_option maxRecDepth 100000 in
theorem sL_law_1476 {x : Nat} : Go kL_law 1476 [a0, (.ref x), a2, a3, a4, a5, a6, a7, a8] st bc bs hp Q ↔ Go kL_law 1477 [a0, (.ref x), a2, a3, a4, a5, a6, a7, a8] (.ref x :: st) bc bs hp Q := Go_next (i := .aload_n 1) rfl rfl
set_option maxRecDepth 100000 in
theorem sL_law_1477 {x : Nat} : Go kL_law 1477 [(.ref x), a1, a2, a3, a4, a5, a6, a7, a8] st bc bs hp Q ↔ Go kL_law 1478 [(.ref x), a1, a2, a3, a4, a5, a6, a7, a8] (.ref x :: st) bc bs hp Q := Go_next (i := .aload_n 0) rfl rfl
set_option maxRecDepth 100000 in
theorem sL_law_1478 {x : Int32} : Go kL_law 1478 [a0, a1, a2, a3, a4, (.int x), a6, a7, a8] st bc bs hp Q ↔ Go kL_law 1480 [a0, a1, a2, a3, a4, (.int x), a6, a7, a8] (.int x :: st) bc bs hp Q := Go_next (i := .iload 5) rfl rfl
set_option maxRecDepth 100000 in
theorem sL_law_1480 : Go kL_law 1480 [a0, a1, a2, a3, a4, a5, a6, a7, a8] st bc bs hp Q ↔ Go kL_law 1481 [a0, a1, a2, a3, a4, a5, a6, a7, a8] (.int 1 :: st) bc bs hp Q := Go_next (i := .iconst 1) rfl rfl
set_option maxRecDepth 100000 in
theorem sL_law_1481 {x y : Int32} : Go kL_law 1481 [a0, a1, a2, a3, a4, a5, a6, a7, a8] (.int y :: .int x :: st) bc bs hp Q ↔ Go kL_law 1482 [a0, a1, a2, a3, a4, a5, a6, a7, a8] (.int (x + y) :: st) bc bs hp Q := Go_next (i := .iadd) rfl rfl
set_option maxRecDepth 100000 in
theorem sL_law_1482 {x : Nat} {i : Int32} : Go kL_law 1482 [a0, a1, a2, a3, a4, a5, a6, a7, a8] (.int i :: .ref x :: st) bc bs hp Q ↔ RdA hp x 0 i (fun v => Go kL_law 1483 [a0, a1, a2, a3, a4, a5, a6, a7, a8] (.int v :: st) bc bs hp Q) := Go_iald rfl
set_option maxRecDepth 100000 in
theorem sL_law_1483 {x : Nat} : Go kL_law 1483 [(.ref x), a1, a2, a3, a4, a5, a6, a7, a8] st bc bs hp Q ↔ Go kL_law 1484 [(.ref x), a1, a2, a3, a4, a5, a6, a7, a8] (.ref x :: st) bc bs hp Q := Go_next (i := .aload_n 0) rfl rfl
set_option maxRecDepth 100000 in
theorem sL_law_1484 {x : Int32} : Go kL_law 1484 [a0, a1, a2, a3, a4, (.int x), a6, a7, a8] st bc bs hp Q ↔ Go kL_law 1486 [a0, a1, a2, a3, a4, (.int x), a6, a7, a8] (.int x :: st) bc bs hp Q := Go_next (i := .iload 5) rfl rfl
set_option maxRecDepth 100000 in
theorem sL_law_1486 : Go kL_law 1486 [a0, a1, a2, a3, a4, a5, a6, a7, a8] st bc bs hp Q ↔ Go kL_law 1487 [a0, a1, a2, a3, a4, a5, a6, a7, a8] (.int 2 :: st) bc bs hp Q := Go_next (i := .iconst 2) rfl rfl
set_option maxRecDepth 100000 in
theorem sL_law_1487 {x y : Int32} : Go kL_law 1487 [a0, a1, a2, a3, a4, a5, a6, a7, a8] (.int y :: .int x :: st) bc bs hp Q ↔ Go kL_law 1488 [a0, a1, a2, a3, a4, a5, a6, a7, a8] (.int (x + y) :: st) bc bs hp Q := Go_next (i := .iadd) rfl rfl
set_option maxRecDepth 100000 in
theorem sL_law_1488 {x : Nat} {i : Int32} : Go kL_law 1488 [a0, a1, a2, a3, a4, a5, a6, a7, a8] (.int i :: .ref x :: st) bc bs hp Q ↔ RdA hp x 0 i (fun v => Go kL_law 1489 [a0, a1, a2, a3, a4, a5, a6, a7, a8] (.int v :: st) bc bs hp Q) := Go_iald rfl
set_option maxRecDepth 100000 in
theorem sL_law_1489 {x : Nat} : Go kL_law 1489 [a0, a1, a2, (.ref x), a4, a5, a6, a7, a8] st bc bs hp Q ↔ Go kL_law 1490 [a0, a1, a2, (.ref x), a4, a5, a6, a7, a8] (.ref x :: st) bc bs hp Q := Go_next (i := .aload_n 3) rfl rfl
set_option maxRecDepth 100000 in
theorem sL_law_1490 {p0 : Nat} {p1 : Int32} {p2 : Int32} {p3 : Nat} : Go kL_law 1490 [a0, a1, a2, a3, a4, a5, a6, a7, a8] (.ref p3 :: .int p2 :: .int p1 :: .ref p0 :: st) bc bs hp Q ↔ (2 ≤ bc ∧ 12 ≤ bs ∧ nsum st ≤ 8) ∧ Call kL_setPriority [.ref p0, .int p1, .int p2, .ref p3] hp (Aft kL_law 1493 [a0, a1, a2, a3, a4, a5, a6, a7, a8] st (bc - 2) (bs - 12) Q) := Go_inv (i := .invokestatic 221) rfl rfl rfl rfl rfl rfl
set_option maxRecDepth 100000 in
theorem sL_law_1493 {x : Int32} (hj : a5.category = 1) : Go kL_law 1493 [a0, a1, a2, a3, a4, a5, a6, a7, a8] (.int x :: st) bc bs hp Q ↔ Go kL_law 1495 [a0, a1, a2, a3, a4, a5, (.int x), a7, a8] st bc bs hp Q := Go_sto (i := .istore 6) (j := 6) (v := .int x) rfl rfl (Nat.le_of_ble_eq_true rfl) (decide_eq_true hj) rfl
set_option maxRecDepth 100000 in
theorem sL_law_1495 {x : Nat} : Go kL_law 1495 [a0, a1, (.ref x), a3, a4, a5, a6, a7, a8] st bc bs hp Q ↔ Go kL_law 1496 [a0, a1, (.ref x), a3, a4, a5, a6, a7, a8] (.ref x :: st) bc bs hp Q := Go_next (i := .aload_n 2) rfl rfl
set_option maxRecDepth 100000 in
theorem sL_law_1496 {x : Nat} : Go kL_law 1496 [(.ref x), a1, a2, a3, a4, a5, a6, a7, a8] st bc bs hp Q ↔ Go kL_law 1497 [(.ref x), a1, a2, a3, a4, a5, a6, a7, a8] (.ref x :: st) bc bs hp Q := Go_next (i := .aload_n 0) rfl rfl
set_option maxRecDepth 100000 in
theorem sL_law_1497 {x : Int32} : Go kL_law 1497 [a0, a1, a2, a3, a4, (.int x), a6, a7, a8] st bc bs hp Q ↔ Go kL_law 1499 [a0, a1, a2, a3, a4, (.int x), a6, a7, a8] (.int x :: st) bc bs hp Q := Go_next (i := .iload 5) rfl rfl
set_option maxRecDepth 100000 in
theorem sL_law_1499 : Go kL_law 1499 [a0, a1, a2, a3, a4, a5, a6, a7, a8] st bc bs hp Q ↔ Go kL_law 1500 [a0, a1, a2, a3, a4, a5, a6, a7, a8] (.int 1 :: st) bc bs hp Q := Go_next (i := .iconst 1) rfl rfl
set_option maxRecDepth 100000 in
theorem sL_law_1500 {x y : Int32} : Go kL_law 1500 [a0, a1, a2, a3, a4, a5, a6, a7, a8] (.int y :: .int x :: st) bc bs hp Q ↔ Go kL_law 1501 [a0, a1, a2, a3, a4, a5, a6, a7, a8] (.int (x + y) :: st) bc bs hp Q := Go_next (i := .iadd) rfl rfl
set_option maxRecDepth 100000 in
theorem sL_law_1501 {x : Nat} {i : Int32} : Go kL_law 1501 [a0, a1, a2, a3, a4, a5, a6, a7, a8] (.int i :: .ref x :: st) bc bs hp Q ↔ RdA hp x 0 i (fun v => Go kL_law 1502 [a0, a1, a2, a3, a4, a5, a6, a7, a8] (.int v :: st) bc bs hp Q) := Go_iald rfl
set_option maxRecDepth 100000 in
theorem sL_law_1502 {x : Nat} : Go kL_law 1502 [(.ref x), a1, a2, a3, a4, a5, a6, a7, a8] st bc bs hp Q ↔ Go kL_law 1503 [(.ref x), a1, a2, a3, a4, a5, a6, a7, a8] (.ref x :: st) bc bs hp Q := Go_next (i := .aload_n 0) rfl rfl
set_option maxRecDepth 100000 in
theorem sL_law_1503 {x : Int32} : Go kL_law 1503 [a0, a1, a2, a3, a4, (.int x), a6, a7, a8] st bc bs hp Q ↔ Go kL_law 1505 [a0, a1, a2, a3, a4, (.int x), a6, a7, a8] (.int x :: st) bc bs hp Q := Go_next (i := .iload 5) rfl rfl
set_option maxRecDepth 100000 in
theorem sL_law_1505 : Go kL_law 1505 [a0, a1, a2, a3, a4, a5, a6, a7, a8] st bc bs hp Q ↔ Go kL_law 1506 [a0, a1, a2, a3, a4, a5, a6, a7, a8] (.int 2 :: st) bc bs hp Q := Go_next (i := .iconst 2) rfl rfl
set_option maxRecDepth 100000 in
theorem sL_law_1506 {x y : Int32} : Go kL_law 1506 [a0, a1, a2, a3, a4, a5, a6, a7, a8] (.int y :: .int x :: st) bc bs hp Q ↔ Go kL_law 1507 [a0, a1, a2, a3, a4, a5, a6, a7, a8] (.int (x + y) :: st) bc bs hp Q := Go_next (i := .iadd) rfl rfl
set_option maxRecDepth 100000 in
theorem sL_law_1507 {x : Nat} {i : Int32} : Go kL_law 1507 [a0, a1, a2, a3, a4, a5, a6, a7, a8] (.int i :: .ref x :: st) bc bs hp Q ↔ RdA hp x 0 i (fun v => Go kL_law 1508 [a0, a1, a2, a3, a4, a5, a6, a7, a8] (.int v :: st) bc bs hp Q) := Go_iald rfl
set_option maxRecDepth 100000 in
theorem sL_law_1508 {p0 : Int32} {p1 : Int32} {x : Nat} : Go kL_law 1508 [a0, a1, a2, a3, a4, a5, a6, a7, a8] (.int p1 :: .int p0 :: .ref x :: st) bc bs hp Q ↔ Rcv hp x 8 ∧ nsum st ≤ 8 ∧ Call kX8_setPriority [.ref x, .int p0, .int p1] hp (Aft kL_law 1511 [a0, a1, a2, a3, a4, a5, a6, a7, a8] st bc bs Q) := Go_invV0 rfl rfl rfl rfl rfl rfl rfl rfl rfl rfl
set_option maxRecDepth 100000 in
theorem sL_law_1511 {x : Int32} (hj : a6.category = 1) : Go kL_law 1511 [a0, a1, a2, a3, a4, a5, a6, a7, a8] (.int x :: st) bc bs hp Q ↔ Go kL_law 1513 [a0, a1, a2, a3, a4, a5, a6, (.int x), a8] st bc bs hp Q := Go_sto (i := .istore 7) (j := 7) (v := .int x) rfl rfl (Nat.le_of_ble_eq_true rfl) (decide_eq_true hj) rfl
set_option maxRecDepth 100000 in
theorem sL_law_1513 {x : Nat} : Go kL_law 1513 [a0, a1, (.ref x), a3, a4, a5, a6, a7, a8] st bc bs hp Q ↔ Go kL_law 1514 [a0, a1, (.ref x), a3, a4, a5, a6, a7, a8] (.ref x :: st) bc bs hp Q := Go_next (i := .aload_n 2) rfl rfl
set_option maxRecDepth 100000 in
theorem sL_law_1514 {x : Nat} : Go kL_law 1514 [a0, a1, a2, a3, a4, a5, a6, a7, a8] (.ref x :: st) bc bs hp Q ↔ Rcv hp x 8 ∧ nsum st ≤ 8 ∧ Call kX8_thrown [.ref x] hp (Aft kL_law 1517 [a0, a1, a2, a3, a4, a5, a6, a7, a8] st bc bs Q) := Go_invV0 rfl rfl rfl rfl rfl rfl rfl rfl rfl rfl
set_option maxRecDepth 100000 in
theorem sL_law_1517 {x : Int32} : Go kL_law 1517 [a0, a1, a2, a3, a4, a5, (.int x), a7, a8] st bc bs hp Q ↔ Go kL_law 1519 [a0, a1, a2, a3, a4, a5, (.int x), a7, a8] (.int x :: st) bc bs hp Q := Go_next (i := .iload 6) rfl rfl
set_option maxRecDepth 100000 in
theorem sL_law_1519 {x y : Int32} : Go kL_law 1519 [a0, a1, a2, a3, a4, a5, a6, a7, a8] (.int y :: .int x :: st) bc bs hp Q ↔ (x = y → Go kL_law 1524 [a0, a1, a2, a3, a4, a5, a6, a7, a8] st bc bs hp Q) ∧ (¬ x = y → Go kL_law 1522 [a0, a1, a2, a3, a4, a5, a6, a7, a8] st bc bs hp Q) := Go_ift (c := x = y) (i := .if_icmp .eq 5) rfl rfl
set_option maxRecDepth 100000 in
theorem sL_law_1522 : Go kL_law 1522 [a0, a1, a2, a3, a4, a5, a6, a7, a8] st bc bs hp Q ↔ Go kL_law 1523 [a0, a1, a2, a3, a4, a5, a6, a7, a8] (.int 0 :: st) bc bs hp Q := Go_next (i := .iconst 0) rfl rfl
set_option maxRecDepth 100000 in
theorem sL_law_1523 {x : Int32} : Go kL_law 1523 [a0, a1, a2, a3, a4, a5, a6, a7, a8] [.int x] bc bs hp Q ↔ outI kL_law x = true ∧ Q (.inl (some (.int x))) hp := Go_retIf (i := .ireturn) rfl rfl
set_option maxRecDepth 100000 in
theorem sL_law_1524 {x : Int32} : Go kL_law 1524 [a0, a1, a2, a3, a4, a5, (.int x), a7, a8] st bc bs hp Q ↔ Go kL_law 1526 [a0, a1, a2, a3, a4, a5, (.int x), a7, a8] (.int x :: st) bc bs hp Q := Go_next (i := .iload 6) rfl rfl
set_option maxRecDepth 100000 in
theorem sL_law_1526 {x : Int32} : Go kL_law 1526 [a0, a1, a2, a3, a4, a5, a6, a7, a8] (.int x :: st) bc bs hp Q ↔ (¬ x = 0 → Go kL_law 1541 [a0, a1, a2, a3, a4, a5, a6, a7, a8] st bc bs hp Q) ∧ (x = 0 → Go kL_law 1529 [a0, a1, a2, a3, a4, a5, a6, a7, a8] st bc bs hp Q) := Go_ifn (c := x = 0) (i := .ifCond .ne 15) rfl rfl
set_option maxRecDepth 100000 in
theorem sL_law_1529 {x : Nat} : Go kL_law 1529 [a0, a1, a2, (.ref x), a4, a5, a6, a7, a8] st bc bs hp Q ↔ Go kL_law 1530 [a0, a1, a2, (.ref x), a4, a5, a6, a7, a8] (.ref x :: st) bc bs hp Q := Go_next (i := .aload_n 3) rfl rfl
set_option maxRecDepth 100000 in
theorem sL_law_1530 : Go kL_law 1530 [a0, a1, a2, a3, a4, a5, a6, a7, a8] st bc bs hp Q ↔ Go kL_law 1531 [a0, a1, a2, a3, a4, a5, a6, a7, a8] (.int 0 :: st) bc bs hp Q := Go_next (i := .iconst 0) rfl rfl
set_option maxRecDepth 100000 in
theorem sL_law_1531 {x : Nat} {i : Int32} : Go kL_law 1531 [a0, a1, a2, a3, a4, a5, a6, a7, a8] (.int i :: .ref x :: st) bc bs hp Q ↔ RdL hp x i (fun v => Go kL_law 1532 [a0, a1, a2, a3, a4, a5, a6, a7, a8] (.long v :: st) bc bs hp Q) := Go_lald rfl
set_option maxRecDepth 100000 in
theorem sL_law_1532 {x : Int32} : Go kL_law 1532 [a0, a1, a2, a3, a4, a5, a6, (.int x), a8] st bc bs hp Q ↔ Go kL_law 1534 [a0, a1, a2, a3, a4, a5, a6, (.int x), a8] (.int x :: st) bc bs hp Q := Go_next (i := .iload 7) rfl rfl
set_option maxRecDepth 100000 in
theorem sL_law_1534 {x : Int32} : Go kL_law 1534 [a0, a1, a2, a3, a4, a5, a6, a7, a8] (.int x :: st) bc bs hp Q ↔ Go kL_law 1535 [a0, a1, a2, a3, a4, a5, a6, a7, a8] (.long x.toInt64 :: st) bc bs hp Q := Go_next (i := .i2l) rfl rfl
set_option maxRecDepth 100000 in
theorem sL_law_1535 {x y : Int64} : Go kL_law 1535 [a0, a1, a2, a3, a4, a5, a6, a7, a8] (.long y :: .long x :: st) bc bs hp Q ↔ Go kL_law 1536 [a0, a1, a2, a3, a4, a5, a6, a7, a8] (.int (lg_cmp x y) :: st) bc bs hp Q := Go_next (i := .lcmp) rfl rfl
set_option maxRecDepth 100000 in
theorem sL_law_1536 {x : Int32} : Go kL_law 1536 [a0, a1, a2, a3, a4, a5, a6, a7, a8] (.int x :: st) bc bs hp Q ↔ (x = 0 → Go kL_law 1541 [a0, a1, a2, a3, a4, a5, a6, a7, a8] st bc bs hp Q) ∧ (¬ x = 0 → Go kL_law 1539 [a0, a1, a2, a3, a4, a5, a6, a7, a8] st bc bs hp Q) := Go_ift (c := x = 0) (i := .ifCond .eq 5) rfl rfl
set_option maxRecDepth 100000 in
theorem sL_law_1539 : Go kL_law 1539 [a0, a1, a2, a3, a4, a5, a6, a7, a8] st bc bs hp Q ↔ Go kL_law 1540 [a0, a1, a2, a3, a4, a5, a6, a7, a8] (.int 0 :: st) bc bs hp Q := Go_next (i := .iconst 0) rfl rfl
set_option maxRecDepth 100000 in
theorem sL_law_1540 {x : Int32} : Go kL_law 1540 [a0, a1, a2, a3, a4, a5, a6, a7, a8] [.int x] bc bs hp Q ↔ outI kL_law x = true ∧ Q (.inl (some (.int x))) hp := Go_retIf (i := .ireturn) rfl rfl
set_option maxRecDepth 100000 in
theorem sL_law_1541 : Go kL_law 1541 [a0, a1, a2, a3, a4, a5, a6, a7, a8] st bc bs hp Q ↔ Go kL_law 3086 [a0, a1, a2, a3, a4, a5, a6, a7, a8] st bc bs hp Q := Go_next (i := .goto 1545) rfl rfl
set_option maxRecDepth 100000 in
theorem sL_law_1544 {x : Nat} : Go kL_law 1544 [a0, (.ref x), a2, a3, a4, a5, a6, a7, a8] st bc bs hp Q ↔ Go kL_law 1545 [a0, (.ref x), a2, a3, a4, a5, a6, a7, a8] (.ref x :: st) bc bs hp Q := Go_next (i := .aload_n 1) rfl rfl
set_option maxRecDepth 100000 in
theorem sL_law_1545 {x : Nat} : Go kL_law 1545 [(.ref x), a1, a2, a3, a4, a5, a6, a7, a8] st bc bs hp Q ↔ Go kL_law 1546 [(.ref x), a1, a2, a3, a4, a5, a6, a7, a8] (.ref x :: st) bc bs hp Q := Go_next (i := .aload_n 0) rfl rfl
set_option maxRecDepth 100000 in
theorem sL_law_1546 {x : Int32} : Go kL_law 1546 [a0, a1, a2, a3, a4, (.int x), a6, a7, a8] st bc bs hp Q ↔ Go kL_law 1548 [a0, a1, a2, a3, a4, (.int x), a6, a7, a8] (.int x :: st) bc bs hp Q := Go_next (i := .iload 5) rfl rfl
set_option maxRecDepth 100000 in
theorem sL_law_1548 : Go kL_law 1548 [a0, a1, a2, a3, a4, a5, a6, a7, a8] st bc bs hp Q ↔ Go kL_law 1549 [a0, a1, a2, a3, a4, a5, a6, a7, a8] (.int 1 :: st) bc bs hp Q := Go_next (i := .iconst 1) rfl rfl
set_option maxRecDepth 100000 in
theorem sL_law_1549 {x y : Int32} : Go kL_law 1549 [a0, a1, a2, a3, a4, a5, a6, a7, a8] (.int y :: .int x :: st) bc bs hp Q ↔ Go kL_law 1550 [a0, a1, a2, a3, a4, a5, a6, a7, a8] (.int (x + y) :: st) bc bs hp Q := Go_next (i := .iadd) rfl rfl
set_option maxRecDepth 100000 in
theorem sL_law_1550 {x : Nat} {i : Int32} : Go kL_law 1550 [a0, a1, a2, a3, a4, a5, a6, a7, a8] (.int i :: .ref x :: st) bc bs hp Q ↔ RdA hp x 0 i (fun v => Go kL_law 1551 [a0, a1, a2, a3, a4, a5, a6, a7, a8] (.int v :: st) bc bs hp Q) := Go_iald rfl
set_option maxRecDepth 100000 in
theorem sL_law_1551 {x : Nat} : Go kL_law 1551 [a0, a1, a2, (.ref x), a4, a5, a6, a7, a8] st bc bs hp Q ↔ Go kL_law 1552 [a0, a1, a2, (.ref x), a4, a5, a6, a7, a8] (.ref x :: st) bc bs hp Q := Go_next (i := .aload_n 3) rfl rfl
set_option maxRecDepth 100000 in
theorem sL_law_1552 {p0 : Nat} {p1 : Int32} {p2 : Nat} : Go kL_law 1552 [a0, a1, a2, a3, a4, a5, a6, a7, a8] (.ref p2 :: .int p1 :: .ref p0 :: st) bc bs hp Q ↔ (2 ≤ bc ∧ 12 ≤ bs ∧ nsum st ≤ 8) ∧ Call kL_go [.ref p0, .int p1, .ref p2] hp (Aft kL_law 1555 [a0, a1, a2, a3, a4, a5, a6, a7, a8] st (bc - 2) (bs - 12) Q) := Go_inv (i := .invokestatic 224) rfl rfl rfl rfl rfl rfl
set_option maxRecDepth 100000 in
theorem sL_law_1555 {x : Int32} (hj : a5.category = 1) : Go kL_law 1555 [a0, a1, a2, a3, a4, a5, a6, a7, a8] (.int x :: st) bc bs hp Q ↔ Go kL_law 1557 [a0, a1, a2, a3, a4, a5, (.int x), a7, a8] st bc bs hp Q := Go_sto (i := .istore 6) (j := 6) (v := .int x) rfl rfl (Nat.le_of_ble_eq_true rfl) (decide_eq_true hj) rfl
set_option maxRecDepth 100000 in
theorem sL_law_1557 {x : Nat} : Go kL_law 1557 [a0, a1, (.ref x), a3, a4, a5, a6, a7, a8] st bc bs hp Q ↔ Go kL_law 1558 [a0, a1, (.ref x), a3, a4, a5, a6, a7, a8] (.ref x :: st) bc bs hp Q := Go_next (i := .aload_n 2) rfl rfl
set_option maxRecDepth 100000 in
theorem sL_law_1558 {x : Nat} : Go kL_law 1558 [(.ref x), a1, a2, a3, a4, a5, a6, a7, a8] st bc bs hp Q ↔ Go kL_law 1559 [(.ref x), a1, a2, a3, a4, a5, a6, a7, a8] (.ref x :: st) bc bs hp Q := Go_next (i := .aload_n 0) rfl rfl
set_option maxRecDepth 100000 in
theorem sL_law_1559 {x : Int32} : Go kL_law 1559 [a0, a1, a2, a3, a4, (.int x), a6, a7, a8] st bc bs hp Q ↔ Go kL_law 1561 [a0, a1, a2, a3, a4, (.int x), a6, a7, a8] (.int x :: st) bc bs hp Q := Go_next (i := .iload 5) rfl rfl
set_option maxRecDepth 100000 in
theorem sL_law_1561 : Go kL_law 1561 [a0, a1, a2, a3, a4, a5, a6, a7, a8] st bc bs hp Q ↔ Go kL_law 1562 [a0, a1, a2, a3, a4, a5, a6, a7, a8] (.int 1 :: st) bc bs hp Q := Go_next (i := .iconst 1) rfl rfl
set_option maxRecDepth 100000 in
theorem sL_law_1562 {x y : Int32} : Go kL_law 1562 [a0, a1, a2, a3, a4, a5, a6, a7, a8] (.int y :: .int x :: st) bc bs hp Q ↔ Go kL_law 1563 [a0, a1, a2, a3, a4, a5, a6, a7, a8] (.int (x + y) :: st) bc bs hp Q := Go_next (i := .iadd) rfl rfl
set_option maxRecDepth 100000 in
theorem sL_law_1563 {x : Nat} {i : Int32} : Go kL_law 1563 [a0, a1, a2, a3, a4, a5, a6, a7, a8] (.int i :: .ref x :: st) bc bs hp Q ↔ RdA hp x 0 i (fun v => Go kL_law 1564 [a0, a1, a2, a3, a4, a5, a6, a7, a8] (.int v :: st) bc bs hp Q) := Go_iald rfl
set_option maxRecDepth 100000 in
theorem sL_law_1564 {p0 : Int32} {x : Nat} : Go kL_law 1564 [a0, a1, a2, a3, a4, a5, a6, a7, a8] (.int p0 :: .ref x :: st) bc bs hp Q ↔ Rcv hp x 8 ∧ nsum st ≤ 8 ∧ Call kX8_go [.ref x, .int p0] hp (Aft kL_law 1567 [a0, a1, a2, a3, a4, a5, a6, a7, a8] st bc bs Q) := Go_invV0 rfl rfl rfl rfl rfl rfl rfl rfl rfl rfl
set_option maxRecDepth 100000 in
theorem sL_law_1567 {x : Int32} (hj : a6.category = 1) : Go kL_law 1567 [a0, a1, a2, a3, a4, a5, a6, a7, a8] (.int x :: st) bc bs hp Q ↔ Go kL_law 1569 [a0, a1, a2, a3, a4, a5, a6, (.int x), a8] st bc bs hp Q := Go_sto (i := .istore 7) (j := 7) (v := .int x) rfl rfl (Nat.le_of_ble_eq_true rfl) (decide_eq_true hj) rfl
set_option maxRecDepth 100000 in
theorem sL_law_1569 {x : Nat} : Go kL_law 1569 [a0, a1, (.ref x), a3, a4, a5, a6, a7, a8] st bc bs hp Q ↔ Go kL_law 1570 [a0, a1, (.ref x), a3, a4, a5, a6, a7, a8] (.ref x :: st) bc bs hp Q := Go_next (i := .aload_n 2) rfl rfl
set_option maxRecDepth 100000 in
theorem sL_law_1570 {x : Nat} : Go kL_law 1570 [a0, a1, a2, a3, a4, a5, a6, a7, a8] (.ref x :: st) bc bs hp Q ↔ Rcv hp x 8 ∧ nsum st ≤ 8 ∧ Call kX8_thrown [.ref x] hp (Aft kL_law 1573 [a0, a1, a2, a3, a4, a5, a6, a7, a8] st bc bs Q) := Go_invV0 rfl rfl rfl rfl rfl rfl rfl rfl rfl rfl
set_option maxRecDepth 100000 in
theorem sL_law_1573 {x : Int32} : Go kL_law 1573 [a0, a1, a2, a3, a4, a5, (.int x), a7, a8] st bc bs hp Q ↔ Go kL_law 1575 [a0, a1, a2, a3, a4, a5, (.int x), a7, a8] (.int x :: st) bc bs hp Q := Go_next (i := .iload 6) rfl rfl
set_option maxRecDepth 100000 in
theorem sL_law_1575 {x y : Int32} : Go kL_law 1575 [a0, a1, a2, a3, a4, a5, a6, a7, a8] (.int y :: .int x :: st) bc bs hp Q ↔ (x = y → Go kL_law 1580 [a0, a1, a2, a3, a4, a5, a6, a7, a8] st bc bs hp Q) ∧ (¬ x = y → Go kL_law 1578 [a0, a1, a2, a3, a4, a5, a6, a7, a8] st bc bs hp Q) := Go_ift (c := x = y) (i := .if_icmp .eq 5) rfl rfl
set_option maxRecDepth 100000 in
theorem sL_law_1578 : Go kL_law 1578 [a0, a1, a2, a3, a4, a5, a6, a7, a8] st bc bs hp Q ↔ Go kL_law 1579 [a0, a1, a2, a3, a4, a5, a6, a7, a8] (.int 0 :: st) bc bs hp Q := Go_next (i := .iconst 0) rfl rfl
set_option maxRecDepth 100000 in
theorem sL_law_1579 {x : Int32} : Go kL_law 1579 [a0, a1, a2, a3, a4, a5, a6, a7, a8] [.int x] bc bs hp Q ↔ outI kL_law x = true ∧ Q (.inl (some (.int x))) hp := Go_retIf (i := .ireturn) rfl rfl
set_option maxRecDepth 100000 in
theorem sL_law_1580 {x : Int32} : Go kL_law 1580 [a0, a1, a2, a3, a4, a5, (.int x), a7, a8] st bc bs hp Q ↔ Go kL_law 1582 [a0, a1, a2, a3, a4, a5, (.int x), a7, a8] (.int x :: st) bc bs hp Q := Go_next (i := .iload 6) rfl rfl
set_option maxRecDepth 100000 in
theorem sL_law_1582 {x : Int32} : Go kL_law 1582 [a0, a1, a2, a3, a4, a5, a6, a7, a8] (.int x :: st) bc bs hp Q ↔ (¬ x = 0 → Go kL_law 1597 [a0, a1, a2, a3, a4, a5, a6, a7, a8] st bc bs hp Q) ∧ (x = 0 → Go kL_law 1585 [a0, a1, a2, a3, a4, a5, a6, a7, a8] st bc bs hp Q) := Go_ifn (c := x = 0) (i := .ifCond .ne 15) rfl rfl
set_option maxRecDepth 100000 in
theorem sL_law_1585 {x : Nat} : Go kL_law 1585 [a0, a1, a2, (.ref x), a4, a5, a6, a7, a8] st bc bs hp Q ↔ Go kL_law 1586 [a0, a1, a2, (.ref x), a4, a5, a6, a7, a8] (.ref x :: st) bc bs hp Q := Go_next (i := .aload_n 3) rfl rfl
set_option maxRecDepth 100000 in
theorem sL_law_1586 : Go kL_law 1586 [a0, a1, a2, a3, a4, a5, a6, a7, a8] st bc bs hp Q ↔ Go kL_law 1587 [a0, a1, a2, a3, a4, a5, a6, a7, a8] (.int 0 :: st) bc bs hp Q := Go_next (i := .iconst 0) rfl rfl
set_option maxRecDepth 100000 in
theorem sL_law_1587 {x : Nat} {i : Int32} : Go kL_law 1587 [a0, a1, a2, a3, a4, a5, a6, a7, a8] (.int i :: .ref x :: st) bc bs hp Q ↔ RdL hp x i (fun v => Go kL_law 1588 [a0, a1, a2, a3, a4, a5, a6, a7, a8] (.long v :: st) bc bs hp Q) := Go_lald rfl
set_option maxRecDepth 100000 in
theorem sL_law_1588 {x : Int32} : Go kL_law 1588 [a0, a1, a2, a3, a4, a5, a6, (.int x), a8] st bc bs hp Q ↔ Go kL_law 1590 [a0, a1, a2, a3, a4, a5, a6, (.int x), a8] (.int x :: st) bc bs hp Q := Go_next (i := .iload 7) rfl rfl
set_option maxRecDepth 100000 in
theorem sL_law_1590 {x : Int32} : Go kL_law 1590 [a0, a1, a2, a3, a4, a5, a6, a7, a8] (.int x :: st) bc bs hp Q ↔ Go kL_law 1591 [a0, a1, a2, a3, a4, a5, a6, a7, a8] (.long x.toInt64 :: st) bc bs hp Q := Go_next (i := .i2l) rfl rfl
set_option maxRecDepth 100000 in
theorem sL_law_1591 {x y : Int64} : Go kL_law 1591 [a0, a1, a2, a3, a4, a5, a6, a7, a8] (.long y :: .long x :: st) bc bs hp Q ↔ Go kL_law 1592 [a0, a1, a2, a3, a4, a5, a6, a7, a8] (.int (lg_cmp x y) :: st) bc bs hp Q := Go_next (i := .lcmp) rfl rfl
set_option maxRecDepth 100000 in
theorem sL_law_1592 {x : Int32} : Go kL_law 1592 [a0, a1, a2, a3, a4, a5, a6, a7, a8] (.int x :: st) bc bs hp Q ↔ (x = 0 → Go kL_law 1597 [a0, a1, a2, a3, a4, a5, a6, a7, a8] st bc bs hp Q) ∧ (¬ x = 0 → Go kL_law 1595 [a0, a1, a2, a3, a4, a5, a6, a7, a8] st bc bs hp Q) := Go_ift (c := x = 0) (i := .ifCond .eq 5) rfl rfl
set_option maxRecDepth 100000 in
theorem sL_law_1595 : Go kL_law 1595 [a0, a1, a2, a3, a4, a5, a6, a7, a8] st bc bs hp Q ↔ Go kL_law 1596 [a0, a1, a2, a3, a4, a5, a6, a7, a8] (.int 0 :: st) bc bs hp Q := Go_next (i := .iconst 0) rfl rfl
set_option maxRecDepth 100000 in
theorem sL_law_1596 {x : Int32} : Go kL_law 1596 [a0, a1, a2, a3, a4, a5, a6, a7, a8] [.int x] bc bs hp Q ↔ outI kL_law x = true ∧ Q (.inl (some (.int x))) hp := Go_retIf (i := .ireturn) rfl rfl
set_option maxRecDepth 100000 in
theorem sL_law_1597 : Go kL_law 1597 [a0, a1, a2, a3, a4, a5, a6, a7, a8] st bc bs hp Q ↔ Go kL_law 3086 [a0, a1, a2, a3, a4, a5, a6, a7, a8] st bc bs hp Q := Go_next (i := .goto 1489) rfl rfl
set_option maxRecDepth 100000 in
theorem sL_law_1600 {x : Nat} : Go kL_law 1600 [a0, (.ref x), a2, a3, a4, a5, a6, a7, a8] st bc bs hp Q ↔ Go kL_law 1601 [a0, (.ref x), a2, a3, a4, a5, a6, a7, a8] (.ref x :: st) bc bs hp Q := Go_next (i := .aload_n 1) rfl rfl
set_option maxRecDepth 100000 in
theorem sL_law_1601 {x : Nat} : Go kL_law 1601 [(.ref x), a1, a2, a3, a4, a5, a6, a7, a8] st bc bs hp Q ↔ Go kL_law 1602 [(.ref x), a1, a2, a3, a4, a5, a6, a7, a8] (.ref x :: st) bc bs hp Q := Go_next (i := .aload_n 0) rfl rfl
set_option maxRecDepth 100000 in
theorem sL_law_1602 {x : Int32} : Go kL_law 1602 [a0, a1, a2, a3, a4, (.int x), a6, a7, a8] st bc bs hp Q ↔ Go kL_law 1604 [a0, a1, a2, a3, a4, (.int x), a6, a7, a8] (.int x :: st) bc bs hp Q := Go_next (i := .iload 5) rfl rfl
set_option maxRecDepth 100000 in
theorem sL_law_1604 : Go kL_law 1604 [a0, a1, a2, a3, a4, a5, a6, a7, a8] st bc bs hp Q ↔ Go kL_law 1605 [a0, a1, a2, a3, a4, a5, a6, a7, a8] (.int 1 :: st) bc bs hp Q := Go_next (i := .iconst 1) rfl rfl
set_option maxRecDepth 100000 in
theorem sL_law_1605 {x y : Int32} : Go kL_law 1605 [a0, a1, a2, a3, a4, a5, a6, a7, a8] (.int y :: .int x :: st) bc bs hp Q ↔ Go kL_law 1606 [a0, a1, a2, a3, a4, a5, a6, a7, a8] (.int (x + y) :: st) bc bs hp Q := Go_next (i := .iadd) rfl rfl
set_option maxRecDepth 100000 in
theorem sL_law_1606 {x : Nat} {i : Int32} : Go kL_law 1606 [a0, a1, a2, a3, a4, a5, a6, a7, a8] (.int i :: .ref x :: st) bc bs hp Q ↔ RdA hp x 0 i (fun v => Go kL_law 1607 [a0, a1, a2, a3, a4, a5, a6, a7, a8] (.int v :: st) bc bs hp Q) := Go_iald rfl
set_option maxRecDepth 100000 in
theorem sL_law_1607 {x : Nat} : Go kL_law 1607 [(.ref x), a1, a2, a3, a4, a5, a6, a7, a8] st bc bs hp Q ↔ Go kL_law 1608 [(.ref x), a1, a2, a3, a4, a5, a6, a7, a8] (.ref x :: st) bc bs hp Q := Go_next (i := .aload_n 0) rfl rfl
set_option maxRecDepth 100000 in
theorem sL_law_1608 {x : Int32} : Go kL_law 1608 [a0, a1, a2, a3, a4, (.int x), a6, a7, a8] st bc bs hp Q ↔ Go kL_law 1610 [a0, a1, a2, a3, a4, (.int x), a6, a7, a8] (.int x :: st) bc bs hp Q := Go_next (i := .iload 5) rfl rfl
set_option maxRecDepth 100000 in
theorem sL_law_1610 : Go kL_law 1610 [a0, a1, a2, a3, a4, a5, a6, a7, a8] st bc bs hp Q ↔ Go kL_law 1611 [a0, a1, a2, a3, a4, a5, a6, a7, a8] (.int 2 :: st) bc bs hp Q := Go_next (i := .iconst 2) rfl rfl
set_option maxRecDepth 100000 in
theorem sL_law_1611 {x y : Int32} : Go kL_law 1611 [a0, a1, a2, a3, a4, a5, a6, a7, a8] (.int y :: .int x :: st) bc bs hp Q ↔ Go kL_law 1612 [a0, a1, a2, a3, a4, a5, a6, a7, a8] (.int (x + y) :: st) bc bs hp Q := Go_next (i := .iadd) rfl rfl
set_option maxRecDepth 100000 in
theorem sL_law_1612 {x : Nat} {i : Int32} : Go kL_law 1612 [a0, a1, a2, a3, a4, a5, a6, a7, a8] (.int i :: .ref x :: st) bc bs hp Q ↔ RdA hp x 0 i (fun v => Go kL_law 1613 [a0, a1, a2, a3, a4, a5, a6, a7, a8] (.int v :: st) bc bs hp Q) := Go_iald rfl
set_option maxRecDepth 100000 in
theorem sL_law_1613 {x : Nat} : Go kL_law 1613 [a0, a1, a2, (.ref x), a4, a5, a6, a7, a8] st bc bs hp Q ↔ Go kL_law 1614 [a0, a1, a2, (.ref x), a4, a5, a6, a7, a8] (.ref x :: st) bc bs hp Q := Go_next (i := .aload_n 3) rfl rfl
set_option maxRecDepth 100000 in
theorem sL_law_1614 {p0 : Nat} {p1 : Int32} {p2 : Int32} {p3 : Nat} : Go kL_law 1614 [a0, a1, a2, a3, a4, a5, a6, a7, a8] (.ref p3 :: .int p2 :: .int p1 :: .ref p0 :: st) bc bs hp Q ↔ (2 ≤ bc ∧ 12 ≤ bs ∧ nsum st ≤ 8) ∧ Call kL_goTo [.ref p0, .int p1, .int p2, .ref p3] hp (Aft kL_law 1617 [a0, a1, a2, a3, a4, a5, a6, a7, a8] st (bc - 2) (bs - 12) Q) := Go_inv (i := .invokestatic 227) rfl rfl rfl rfl rfl rfl
set_option maxRecDepth 100000 in
theorem sL_law_1617 {x : Int32} (hj : a5.category = 1) : Go kL_law 1617 [a0, a1, a2, a3, a4, a5, a6, a7, a8] (.int x :: st) bc bs hp Q ↔ Go kL_law 1619 [a0, a1, a2, a3, a4, a5, (.int x), a7, a8] st bc bs hp Q := Go_sto (i := .istore 6) (j := 6) (v := .int x) rfl rfl (Nat.le_of_ble_eq_true rfl) (decide_eq_true hj) rfl
set_option maxRecDepth 100000 in
theorem sL_law_1619 {x : Nat} : Go kL_law 1619 [a0, a1, (.ref x), a3, a4, a5, a6, a7, a8] st bc bs hp Q ↔ Go kL_law 1620 [a0, a1, (.ref x), a3, a4, a5, a6, a7, a8] (.ref x :: st) bc bs hp Q := Go_next (i := .aload_n 2) rfl rfl
set_option maxRecDepth 100000 in
theorem sL_law_1620 {x : Nat} : Go kL_law 1620 [(.ref x), a1, a2, a3, a4, a5, a6, a7, a8] st bc bs hp Q ↔ Go kL_law 1621 [(.ref x), a1, a2, a3, a4, a5, a6, a7, a8] (.ref x :: st) bc bs hp Q := Go_next (i := .aload_n 0) rfl rfl
set_option maxRecDepth 100000 in
theorem sL_law_1621 {x : Int32} : Go kL_law 1621 [a0, a1, a2, a3, a4, (.int x), a6, a7, a8] st bc bs hp Q ↔ Go kL_law 1623 [a0, a1, a2, a3, a4, (.int x), a6, a7, a8] (.int x :: st) bc bs hp Q := Go_next (i := .iload 5) rfl rfl
set_option maxRecDepth 100000 in
theorem sL_law_1623 : Go kL_law 1623 [a0, a1, a2, a3, a4, a5, a6, a7, a8] st bc bs hp Q ↔ Go kL_law 1624 [a0, a1, a2, a3, a4, a5, a6, a7, a8] (.int 1 :: st) bc bs hp Q := Go_next (i := .iconst 1) rfl rfl
set_option maxRecDepth 100000 in
theorem sL_law_1624 {x y : Int32} : Go kL_law 1624 [a0, a1, a2, a3, a4, a5, a6, a7, a8] (.int y :: .int x :: st) bc bs hp Q ↔ Go kL_law 1625 [a0, a1, a2, a3, a4, a5, a6, a7, a8] (.int (x + y) :: st) bc bs hp Q := Go_next (i := .iadd) rfl rfl
set_option maxRecDepth 100000 in
theorem sL_law_1625 {x : Nat} {i : Int32} : Go kL_law 1625 [a0, a1, a2, a3, a4, a5, a6, a7, a8] (.int i :: .ref x :: st) bc bs hp Q ↔ RdA hp x 0 i (fun v => Go kL_law 1626 [a0, a1, a2, a3, a4, a5, a6, a7, a8] (.int v :: st) bc bs hp Q) := Go_iald rfl
set_option maxRecDepth 100000 in
theorem sL_law_1626 {x : Nat} : Go kL_law 1626 [(.ref x), a1, a2, a3, a4, a5, a6, a7, a8] st bc bs hp Q ↔ Go kL_law 1627 [(.ref x), a1, a2, a3, a4, a5, a6, a7, a8] (.ref x :: st) bc bs hp Q := Go_next (i := .aload_n 0) rfl rfl
set_option maxRecDepth 100000 in
theorem sL_law_1627 {x : Int32} : Go kL_law 1627 [a0, a1, a2, a3, a4, (.int x), a6, a7, a8] st bc bs hp Q ↔ Go kL_law 1629 [a0, a1, a2, a3, a4, (.int x), a6, a7, a8] (.int x :: st) bc bs hp Q := Go_next (i := .iload 5) rfl rfl
set_option maxRecDepth 100000 in
theorem sL_law_1629 : Go kL_law 1629 [a0, a1, a2, a3, a4, a5, a6, a7, a8] st bc bs hp Q ↔ Go kL_law 1630 [a0, a1, a2, a3, a4, a5, a6, a7, a8] (.int 2 :: st) bc bs hp Q := Go_next (i := .iconst 2) rfl rfl
set_option maxRecDepth 100000 in
theorem sL_law_1630 {x y : Int32} : Go kL_law 1630 [a0, a1, a2, a3, a4, a5, a6, a7, a8] (.int y :: .int x :: st) bc bs hp Q ↔ Go kL_law 1631 [a0, a1, a2, a3, a4, a5, a6, a7, a8] (.int (x + y) :: st) bc bs hp Q := Go_next (i := .iadd) rfl rfl
set_option maxRecDepth 100000 in
theorem sL_law_1631 {x : Nat} {i : Int32} : Go kL_law 1631 [a0, a1, a2, a3, a4, a5, a6, a7, a8] (.int i :: .ref x :: st) bc bs hp Q ↔ RdA hp x 0 i (fun v => Go kL_law 1632 [a0, a1, a2, a3, a4, a5, a6, a7, a8] (.int v :: st) bc bs hp Q) := Go_iald rfl
set_option maxRecDepth 100000 in
theorem sL_law_1632 {p0 : Int32} {p1 : Int32} {x : Nat} : Go kL_law 1632 [a0, a1, a2, a3, a4, a5, a6, a7, a8] (.int p1 :: .int p0 :: .ref x :: st) bc bs hp Q ↔ Rcv hp x 8 ∧ nsum st ≤ 8 ∧ Call kX8_goTo [.ref x, .int p0, .int p1] hp (Aft kL_law 1635 [a0, a1, a2, a3, a4, a5, a6, a7, a8] st bc bs Q) := Go_invV0 rfl rfl rfl rfl rfl rfl rfl rfl rfl rfl
set_option maxRecDepth 100000 in
theorem sL_law_1635 {x : Int32} (hj : a6.category = 1) : Go kL_law 1635 [a0, a1, a2, a3, a4, a5, a6, a7, a8] (.int x :: st) bc bs hp Q ↔ Go kL_law 1637 [a0, a1, a2, a3, a4, a5, a6, (.int x), a8] st bc bs hp Q := Go_sto (i := .istore 7) (j := 7) (v := .int x) rfl rfl (Nat.le_of_ble_eq_true rfl) (decide_eq_true hj) rfl
set_option maxRecDepth 100000 in
theorem sL_law_1637 {x : Nat} : Go kL_law 1637 [a0, a1, (.ref x), a3, a4, a5, a6, a7, a8] st bc bs hp Q ↔ Go kL_law 1638 [a0, a1, (.ref x), a3, a4, a5, a6, a7, a8] (.ref x :: st) bc bs hp Q := Go_next (i := .aload_n 2) rfl rfl
set_option maxRecDepth 100000 in
theorem sL_law_1638 {x : Nat} : Go kL_law 1638 [a0, a1, a2, a3, a4, a5, a6, a7, a8] (.ref x :: st) bc bs hp Q ↔ Rcv hp x 8 ∧ nsum st ≤ 8 ∧ Call kX8_thrown [.ref x] hp (Aft kL_law 1641 [a0, a1, a2, a3, a4, a5, a6, a7, a8] st bc bs Q) := Go_invV0 rfl rfl rfl rfl rfl rfl rfl rfl rfl rfl
set_option maxRecDepth 100000 in
theorem sL_law_1641 {x : Int32} : Go kL_law 1641 [a0, a1, a2, a3, a4, a5, (.int x), a7, a8] st bc bs hp Q ↔ Go kL_law 1643 [a0, a1, a2, a3, a4, a5, (.int x), a7, a8] (.int x :: st) bc bs hp Q := Go_next (i := .iload 6) rfl rfl
set_option maxRecDepth 100000 in
theorem sL_law_1643 {x y : Int32} : Go kL_law 1643 [a0, a1, a2, a3, a4, a5, a6, a7, a8] (.int y :: .int x :: st) bc bs hp Q ↔ (x = y → Go kL_law 1648 [a0, a1, a2, a3, a4, a5, a6, a7, a8] st bc bs hp Q) ∧ (¬ x = y → Go kL_law 1646 [a0, a1, a2, a3, a4, a5, a6, a7, a8] st bc bs hp Q) := Go_ift (c := x = y) (i := .if_icmp .eq 5) rfl rfl
set_option maxRecDepth 100000 in
theorem sL_law_1646 : Go kL_law 1646 [a0, a1, a2, a3, a4, a5, a6, a7, a8] st bc bs hp Q ↔ Go kL_law 1647 [a0, a1, a2, a3, a4, a5, a6, a7, a8] (.int 0 :: st) bc bs hp Q := Go_next (i := .iconst 0) rfl rfl
set_option maxRecDepth 100000 in
theorem sL_law_1647 {x : Int32} : Go kL_law 1647 [a0, a1, a2, a3, a4, a5, a6, a7, a8] [.int x] bc bs hp Q ↔ outI kL_law x = true ∧ Q (.inl (some (.int x))) hp := Go_retIf (i := .ireturn) rfl rfl
set_option maxRecDepth 100000 in
theorem sL_law_1648 {x : Int32} : Go kL_law 1648 [a0, a1, a2, a3, a4, a5, (.int x), a7, a8] st bc bs hp Q ↔ Go kL_law 1650 [a0, a1, a2, a3, a4, a5, (.int x), a7, a8] (.int x :: st) bc bs hp Q := Go_next (i := .iload 6) rfl rfl
set_option maxRecDepth 100000 in
theorem sL_law_1650 {x : Int32} : Go kL_law 1650 [a0, a1, a2, a3, a4, a5, a6, a7, a8] (.int x :: st) bc bs hp Q ↔ (¬ x = 0 → Go kL_law 1665 [a0, a1, a2, a3, a4, a5, a6, a7, a8] st bc bs hp Q) ∧ (x = 0 → Go kL_law 1653 [a0, a1, a2, a3, a4, a5, a6, a7, a8] st bc bs hp Q) := Go_ifn (c := x = 0) (i := .ifCond .ne 15) rfl rfl
set_option maxRecDepth 100000 in
theorem sL_law_1653 {x : Nat} : Go kL_law 1653 [a0, a1, a2, (.ref x), a4, a5, a6, a7, a8] st bc bs hp Q ↔ Go kL_law 1654 [a0, a1, a2, (.ref x), a4, a5, a6, a7, a8] (.ref x :: st) bc bs hp Q := Go_next (i := .aload_n 3) rfl rfl
set_option maxRecDepth 100000 in
theorem sL_law_1654 : Go kL_law 1654 [a0, a1, a2, a3, a4, a5, a6, a7, a8] st bc bs hp Q ↔ Go kL_law 1655 [a0, a1, a2, a3, a4, a5, a6, a7, a8] (.int 0 :: st) bc bs hp Q := Go_next (i := .iconst 0) rfl rfl
set_option maxRecDepth 100000 in
theorem sL_law_1655 {x : Nat} {i : Int32} : Go kL_law 1655 [a0, a1, a2, a3, a4, a5, a6, a7, a8] (.int i :: .ref x :: st) bc bs hp Q ↔ RdL hp x i (fun v => Go kL_law 1656 [a0, a1, a2, a3, a4, a5, a6, a7, a8] (.long v :: st) bc bs hp Q) := Go_lald rfl
set_option maxRecDepth 100000 in
theorem sL_law_1656 {x : Int32} : Go kL_law 1656 [a0, a1, a2, a3, a4, a5, a6, (.int x), a8] st bc bs hp Q ↔ Go kL_law 1658 [a0, a1, a2, a3, a4, a5, a6, (.int x), a8] (.int x :: st) bc bs hp Q := Go_next (i := .iload 7) rfl rfl
set_option maxRecDepth 100000 in
theorem sL_law_1658 {x : Int32} : Go kL_law 1658 [a0, a1, a2, a3, a4, a5, a6, a7, a8] (.int x :: st) bc bs hp Q ↔ Go kL_law 1659 [a0, a1, a2, a3, a4, a5, a6, a7, a8] (.long x.toInt64 :: st) bc bs hp Q := Go_next (i := .i2l) rfl rfl
set_option maxRecDepth 100000 in
theorem sL_law_1659 {x y : Int64} : Go kL_law 1659 [a0, a1, a2, a3, a4, a5, a6, a7, a8] (.long y :: .long x :: st) bc bs hp Q ↔ Go kL_law 1660 [a0, a1, a2, a3, a4, a5, a6, a7, a8] (.int (lg_cmp x y) :: st) bc bs hp Q := Go_next (i := .lcmp) rfl rfl
set_option maxRecDepth 100000 in
theorem sL_law_1660 {x : Int32} : Go kL_law 1660 [a0, a1, a2, a3, a4, a5, a6, a7, a8] (.int x :: st) bc bs hp Q ↔ (x = 0 → Go kL_law 1665 [a0, a1, a2, a3, a4, a5, a6, a7, a8] st bc bs hp Q) ∧ (¬ x = 0 → Go kL_law 1663 [a0, a1, a2, a3, a4, a5, a6, a7, a8] st bc bs hp Q) := Go_ift (c := x = 0) (i := .ifCond .eq 5) rfl rfl
set_option maxRecDepth 100000 in
theorem sL_law_1663 : Go kL_law 1663 [a0, a1, a2, a3, a4, a5, a6, a7, a8] st bc bs hp Q ↔ Go kL_law 1664 [a0, a1, a2, a3, a4, a5, a6, a7, a8] (.int 0 :: st) bc bs hp Q := Go_next (i := .iconst 0) rfl rfl
set_option maxRecDepth 100000 in
theorem sL_law_1664 {x : Int32} : Go kL_law 1664 [a0, a1, a2, a3, a4, a5, a6, a7, a8] [.int x] bc bs hp Q ↔ outI kL_law x = true ∧ Q (.inl (some (.int x))) hp := Go_retIf (i := .ireturn) rfl rfl
set_option maxRecDepth 100000 in
theorem sL_law_1665 : Go kL_law 1665 [a0, a1, a2, a3, a4, a5, a6, a7, a8] st bc bs hp Q ↔ Go kL_law 3086 [a0, a1, a2, a3, a4, a5, a6, a7, a8] st bc bs hp Q := Go_next (i := .goto 1421) rfl rfl
set_option maxRecDepth 100000 in
theorem sL_law_1668 {x : Nat} : Go kL_law 1668 [a0, (.ref x), a2, a3, a4, a5, a6, a7, a8] st bc bs hp Q ↔ Go kL_law 1669 [a0, (.ref x), a2, a3, a4, a5, a6, a7, a8] (.ref x :: st) bc bs hp Q := Go_next (i := .aload_n 1) rfl rfl
set_option maxRecDepth 100000 in
theorem sL_law_1669 {x : Nat} : Go kL_law 1669 [(.ref x), a1, a2, a3, a4, a5, a6, a7, a8] st bc bs hp Q ↔ Go kL_law 1670 [(.ref x), a1, a2, a3, a4, a5, a6, a7, a8] (.ref x :: st) bc bs hp Q := Go_next (i := .aload_n 0) rfl rfl
set_option maxRecDepth 100000 in
theorem sL_law_1670 {x : Int32} : Go kL_law 1670 [a0, a1, a2, a3, a4, (.int x), a6, a7, a8] st bc bs hp Q ↔ Go kL_law 1672 [a0, a1, a2, a3, a4, (.int x), a6, a7, a8] (.int x :: st) bc bs hp Q := Go_next (i := .iload 5) rfl rfl
set_option maxRecDepth 100000 in
theorem sL_law_1672 : Go kL_law 1672 [a0, a1, a2, a3, a4, a5, a6, a7, a8] st bc bs hp Q ↔ Go kL_law 1673 [a0, a1, a2, a3, a4, a5, a6, a7, a8] (.int 1 :: st) bc bs hp Q := Go_next (i := .iconst 1) rfl rfl
set_option maxRecDepth 100000 in
theorem sL_law_1673 {x y : Int32} : Go kL_law 1673 [a0, a1, a2, a3, a4, a5, a6, a7, a8] (.int y :: .int x :: st) bc bs hp Q ↔ Go kL_law 1674 [a0, a1, a2, a3, a4, a5, a6, a7, a8] (.int (x + y) :: st) bc bs hp Q := Go_next (i := .iadd) rfl rfl
set_option maxRecDepth 100000 in
theorem sL_law_1674 {x : Nat} {i : Int32} : Go kL_law 1674 [a0, a1, a2, a3, a4, a5, a6, a7, a8] (.int i :: .ref x :: st) bc bs hp Q ↔ RdA hp x 0 i (fun v => Go kL_law 1675 [a0, a1, a2, a3, a4, a5, a6, a7, a8] (.int v :: st) bc bs hp Q) := Go_iald rfl
set_option maxRecDepth 100000 in
theorem sL_law_1675 {x : Nat} : Go kL_law 1675 [a0, a1, a2, (.ref x), a4, a5, a6, a7, a8] st bc bs hp Q ↔ Go kL_law 1676 [a0, a1, a2, (.ref x), a4, a5, a6, a7, a8] (.ref x :: st) bc bs hp Q := Go_next (i := .aload_n 3) rfl rfl
set_option maxRecDepth 100000 in
theorem sL_law_1676 {p0 : Nat} {p1 : Int32} {p2 : Nat} : Go kL_law 1676 [a0, a1, a2, a3, a4, a5, a6, a7, a8] (.ref p2 :: .int p1 :: .ref p0 :: st) bc bs hp Q ↔ (2 ≤ bc ∧ 12 ≤ bs ∧ nsum st ≤ 8) ∧ Call kL_release [.ref p0, .int p1, .ref p2] hp (Aft kL_law 1679 [a0, a1, a2, a3, a4, a5, a6, a7, a8] st (bc - 2) (bs - 12) Q) := Go_inv (i := .invokestatic 230) rfl rfl rfl rfl rfl rfl
set_option maxRecDepth 100000 in
theorem sL_law_1679 {x : Int32} (hj : a5.category = 1) : Go kL_law 1679 [a0, a1, a2, a3, a4, a5, a6, a7, a8] (.int x :: st) bc bs hp Q ↔ Go kL_law 1681 [a0, a1, a2, a3, a4, a5, (.int x), a7, a8] st bc bs hp Q := Go_sto (i := .istore 6) (j := 6) (v := .int x) rfl rfl (Nat.le_of_ble_eq_true rfl) (decide_eq_true hj) rfl
set_option maxRecDepth 100000 in
theorem sL_law_1681 {x : Nat} : Go kL_law 1681 [a0, a1, (.ref x), a3, a4, a5, a6, a7, a8] st bc bs hp Q ↔ Go kL_law 1682 [a0, a1, (.ref x), a3, a4, a5, a6, a7, a8] (.ref x :: st) bc bs hp Q := Go_next (i := .aload_n 2) rfl rfl
set_option maxRecDepth 100000 in
theorem sL_law_1682 {x : Nat} : Go kL_law 1682 [(.ref x), a1, a2, a3, a4, a5, a6, a7, a8] st bc bs hp Q ↔ Go kL_law 1683 [(.ref x), a1, a2, a3, a4, a5, a6, a7, a8] (.ref x :: st) bc bs hp Q := Go_next (i := .aload_n 0) rfl rfl
set_option maxRecDepth 100000 in
theorem sL_law_1683 {x : Int32} : Go kL_law 1683 [a0, a1, a2, a3, a4, (.int x), a6, a7, a8] st bc bs hp Q ↔ Go kL_law 1685 [a0, a1, a2, a3, a4, (.int x), a6, a7, a8] (.int x :: st) bc bs hp Q := Go_next (i := .iload 5) rfl rfl
set_option maxRecDepth 100000 in
theorem sL_law_1685 : Go kL_law 1685 [a0, a1, a2, a3, a4, a5, a6, a7, a8] st bc bs hp Q ↔ Go kL_law 1686 [a0, a1, a2, a3, a4, a5, a6, a7, a8] (.int 1 :: st) bc bs hp Q := Go_next (i := .iconst 1) rfl rfl
set_option maxRecDepth 100000 in
theorem sL_law_1686 {x y : Int32} : Go kL_law 1686 [a0, a1, a2, a3, a4, a5, a6, a7, a8] (.int y :: .int x :: st) bc bs hp Q ↔ Go kL_law 1687 [a0, a1, a2, a3, a4, a5, a6, a7, a8] (.int (x + y) :: st) bc bs hp Q := Go_next (i := .iadd) rfl rfl
set_option maxRecDepth 100000 in
theorem sL_law_1687 {x : Nat} {i : Int32} : Go kL_law 1687 [a0, a1, a2, a3, a4, a5, a6, a7, a8] (.int i :: .ref x :: st) bc bs hp Q ↔ RdA hp x 0 i (fun v => Go kL_law 1688 [a0, a1, a2, a3, a4, a5, a6, a7, a8] (.int v :: st) bc bs hp Q) := Go_iald rfl
set_option maxRecDepth 100000 in
theorem sL_law_1688 {p0 : Int32} {x : Nat} : Go kL_law 1688 [a0, a1, a2, a3, a4, a5, a6, a7, a8] (.int p0 :: .ref x :: st) bc bs hp Q ↔ Rcv hp x 8 ∧ nsum st ≤ 8 ∧ Call kX8_release [.ref x, .int p0] hp (Aft kL_law 1691 [a0, a1, a2, a3, a4, a5, a6, a7, a8] st bc bs Q) := Go_invV0 rfl rfl rfl rfl rfl rfl rfl rfl rfl rfl
set_option maxRecDepth 100000 in
theorem sL_law_1691 {x : Int32} (hj : a6.category = 1) : Go kL_law 1691 [a0, a1, a2, a3, a4, a5, a6, a7, a8] (.int x :: st) bc bs hp Q ↔ Go kL_law 1693 [a0, a1, a2, a3, a4, a5, a6, (.int x), a8] st bc bs hp Q := Go_sto (i := .istore 7) (j := 7) (v := .int x) rfl rfl (Nat.le_of_ble_eq_true rfl) (decide_eq_true hj) rfl
set_option maxRecDepth 100000 in
theorem sL_law_1693 {x : Nat} : Go kL_law 1693 [a0, a1, (.ref x), a3, a4, a5, a6, a7, a8] st bc bs hp Q ↔ Go kL_law 1694 [a0, a1, (.ref x), a3, a4, a5, a6, a7, a8] (.ref x :: st) bc bs hp Q := Go_next (i := .aload_n 2) rfl rfl
set_option maxRecDepth 100000 in
theorem sL_law_1694 {x : Nat} : Go kL_law 1694 [a0, a1, a2, a3, a4, a5, a6, a7, a8] (.ref x :: st) bc bs hp Q ↔ Rcv hp x 8 ∧ nsum st ≤ 8 ∧ Call kX8_thrown [.ref x] hp (Aft kL_law 1697 [a0, a1, a2, a3, a4, a5, a6, a7, a8] st bc bs Q) := Go_invV0 rfl rfl rfl rfl rfl rfl rfl rfl rfl rfl
set_option maxRecDepth 100000 in
theorem sL_law_1697 {x : Int32} : Go kL_law 1697 [a0, a1, a2, a3, a4, a5, (.int x), a7, a8] st bc bs hp Q ↔ Go kL_law 1699 [a0, a1, a2, a3, a4, a5, (.int x), a7, a8] (.int x :: st) bc bs hp Q := Go_next (i := .iload 6) rfl rfl
set_option maxRecDepth 100000 in
theorem sL_law_1699 {x y : Int32} : Go kL_law 1699 [a0, a1, a2, a3, a4, a5, a6, a7, a8] (.int y :: .int x :: st) bc bs hp Q ↔ (x = y → Go kL_law 1704 [a0, a1, a2, a3, a4, a5, a6, a7, a8] st bc bs hp Q) ∧ (¬ x = y → Go kL_law 1702 [a0, a1, a2, a3, a4, a5, a6, a7, a8] st bc bs hp Q) := Go_ift (c := x = y) (i := .if_icmp .eq 5) rfl rfl
set_option maxRecDepth 100000 in
theorem sL_law_1702 : Go kL_law 1702 [a0, a1, a2, a3, a4, a5, a6, a7, a8] st bc bs hp Q ↔ Go kL_law 1703 [a0, a1, a2, a3, a4, a5, a6, a7, a8] (.int 0 :: st) bc bs hp Q := Go_next (i := .iconst 0) rfl rfl
set_option maxRecDepth 100000 in
theorem sL_law_1703 {x : Int32} : Go kL_law 1703 [a0, a1, a2, a3, a4, a5, a6, a7, a8] [.int x] bc bs hp Q ↔ outI kL_law x = true ∧ Q (.inl (some (.int x))) hp := Go_retIf (i := .ireturn) rfl rfl
set_option maxRecDepth 100000 in
theorem sL_law_1704 {x : Int32} : Go kL_law 1704 [a0, a1, a2, a3, a4, a5, (.int x), a7, a8] st bc bs hp Q ↔ Go kL_law 1706 [a0, a1, a2, a3, a4, a5, (.int x), a7, a8] (.int x :: st) bc bs hp Q := Go_next (i := .iload 6) rfl rfl
set_option maxRecDepth 100000 in
theorem sL_law_1706 {x : Int32} : Go kL_law 1706 [a0, a1, a2, a3, a4, a5, a6, a7, a8] (.int x :: st) bc bs hp Q ↔ (¬ x = 0 → Go kL_law 1721 [a0, a1, a2, a3, a4, a5, a6, a7, a8] st bc bs hp Q) ∧ (x = 0 → Go kL_law 1709 [a0, a1, a2, a3, a4, a5, a6, a7, a8] st bc bs hp Q) := Go_ifn (c := x = 0) (i := .ifCond .ne 15) rfl rfl
set_option maxRecDepth 100000 in
theorem sL_law_1709 {x : Nat} : Go kL_law 1709 [a0, a1, a2, (.ref x), a4, a5, a6, a7, a8] st bc bs hp Q ↔ Go kL_law 1710 [a0, a1, a2, (.ref x), a4, a5, a6, a7, a8] (.ref x :: st) bc bs hp Q := Go_next (i := .aload_n 3) rfl rfl
set_option maxRecDepth 100000 in
theorem sL_law_1710 : Go kL_law 1710 [a0, a1, a2, a3, a4, a5, a6, a7, a8] st bc bs hp Q ↔ Go kL_law 1711 [a0, a1, a2, a3, a4, a5, a6, a7, a8] (.int 0 :: st) bc bs hp Q := Go_next (i := .iconst 0) rfl rfl
set_option maxRecDepth 100000 in
theorem sL_law_1711 {x : Nat} {i : Int32} : Go kL_law 1711 [a0, a1, a2, a3, a4, a5, a6, a7, a8] (.int i :: .ref x :: st) bc bs hp Q ↔ RdL hp x i (fun v => Go kL_law 1712 [a0, a1, a2, a3, a4, a5, a6, a7, a8] (.long v :: st) bc bs hp Q) := Go_lald rfl
set_option maxRecDepth 100000 in
theorem sL_law_1712 {x : Int32} : Go kL_law 1712 [a0, a1, a2, a3, a4, a5, a6, (.int x), a8] st bc bs hp Q ↔ Go kL_law 1714 [a0, a1, a2, a3, a4, a5, a6, (.int x), a8] (.int x :: st) bc bs hp Q := Go_next (i := .iload 7) rfl rfl
set_option maxRecDepth 100000 in
theorem sL_law_1714 {x : Int32} : Go kL_law 1714 [a0, a1, a2, a3, a4, a5, a6, a7, a8] (.int x :: st) bc bs hp Q ↔ Go kL_law 1715 [a0, a1, a2, a3, a4, a5, a6, a7, a8] (.long x.toInt64 :: st) bc bs hp Q := Go_next (i := .i2l) rfl rfl
set_option maxRecDepth 100000 in
theorem sL_law_1715 {x y : Int64} : Go kL_law 1715 [a0, a1, a2, a3, a4, a5, a6, a7, a8] (.long y :: .long x :: st) bc bs hp Q ↔ Go kL_law 1716 [a0, a1, a2, a3, a4, a5, a6, a7, a8] (.int (lg_cmp x y) :: st) bc bs hp Q := Go_next (i := .lcmp) rfl rfl
set_option maxRecDepth 100000 in
theorem sL_law_1716 {x : Int32} : Go kL_law 1716 [a0, a1, a2, a3, a4, a5, a6, a7, a8] (.int x :: st) bc bs hp Q ↔ (x = 0 → Go kL_law 1721 [a0, a1, a2, a3, a4, a5, a6, a7, a8] st bc bs hp Q) ∧ (¬ x = 0 → Go kL_law 1719 [a0, a1, a2, a3, a4, a5, a6, a7, a8] st bc bs hp Q) := Go_ift (c := x = 0) (i := .ifCond .eq 5) rfl rfl
set_option maxRecDepth 100000 in
theorem sL_law_1719 : Go kL_law 1719 [a0, a1, a2, a3, a4, a5, a6, a7, a8] st bc bs hp Q ↔ Go kL_law 1720 [a0, a1, a2, a3, a4, a5, a6, a7, a8] (.int 0 :: st) bc bs hp Q := Go_next (i := .iconst 0) rfl rfl
set_option maxRecDepth 100000 in
theorem sL_law_1720 {x : Int32} : Go kL_law 1720 [a0, a1, a2, a3, a4, a5, a6, a7, a8] [.int x] bc bs hp Q ↔ outI kL_law x = true ∧ Q (.inl (some (.int x))) hp := Go_retIf (i := .ireturn) rfl rfl
set_option maxRecDepth 100000 in
theorem sL_law_1721 : Go kL_law 1721 [a0, a1, a2, a3, a4, a5, a6, a7, a8] st bc bs hp Q ↔ Go kL_law 3086 [a0, a1, a2, a3, a4, a5, a6, a7, a8] st bc bs hp Q := Go_next (i := .goto 1365) rfl rfl
set_option maxRecDepth 100000 in
theorem sL_law_1724 {x : Nat} : Go kL_law 1724 [a0, (.ref x), a2, a3, a4, a5, a6, a7, a8] st bc bs hp Q ↔ Go kL_law 1725 [a0, (.ref x), a2, a3, a4, a5, a6, a7, a8] (.ref x :: st) bc bs hp Q := Go_next (i := .aload_n 1) rfl rfl
set_option maxRecDepth 100000 in
theorem sL_law_1725 {x : Nat} : Go kL_law 1725 [(.ref x), a1, a2, a3, a4, a5, a6, a7, a8] st bc bs hp Q ↔ Go kL_law 1726 [(.ref x), a1, a2, a3, a4, a5, a6, a7, a8] (.ref x :: st) bc bs hp Q := Go_next (i := .aload_n 0) rfl rfl
set_option maxRecDepth 100000 in
theorem sL_law_1726 {x : Int32} : Go kL_law 1726 [a0, a1, a2, a3, a4, (.int x), a6, a7, a8] st bc bs hp Q ↔ Go kL_law 1728 [a0, a1, a2, a3, a4, (.int x), a6, a7, a8] (.int x :: st) bc bs hp Q := Go_next (i := .iload 5) rfl rfl
set_option maxRecDepth 100000 in
theorem sL_law_1728 : Go kL_law 1728 [a0, a1, a2, a3, a4, a5, a6, a7, a8] st bc bs hp Q ↔ Go kL_law 1729 [a0, a1, a2, a3, a4, a5, a6, a7, a8] (.int 1 :: st) bc bs hp Q := Go_next (i := .iconst 1) rfl rfl
set_option maxRecDepth 100000 in
theorem sL_law_1729 {x y : Int32} : Go kL_law 1729 [a0, a1, a2, a3, a4, a5, a6, a7, a8] (.int y :: .int x :: st) bc bs hp Q ↔ Go kL_law 1730 [a0, a1, a2, a3, a4, a5, a6, a7, a8] (.int (x + y) :: st) bc bs hp Q := Go_next (i := .iadd) rfl rfl
set_option maxRecDepth 100000 in
theorem sL_law_1730 {x : Nat} {i : Int32} : Go kL_law 1730 [a0, a1, a2, a3, a4, a5, a6, a7, a8] (.int i :: .ref x :: st) bc bs hp Q ↔ RdA hp x 0 i (fun v => Go kL_law 1731 [a0, a1, a2, a3, a4, a5, a6, a7, a8] (.int v :: st) bc bs hp Q) := Go_iald rfl
set_option maxRecDepth 100000 in
theorem sL_law_1731 {x : Nat} : Go kL_law 1731 [a0, a1, a2, (.ref x), a4, a5, a6, a7, a8] st bc bs hp Q ↔ Go kL_law 1732 [a0, a1, a2, (.ref x), a4, a5, a6, a7, a8] (.ref x :: st) bc bs hp Q := Go_next (i := .aload_n 3) rfl rfl
set_option maxRecDepth 100000 in
theorem sL_law_1732 {p0 : Nat} {p1 : Int32} {p2 : Nat} : Go kL_law 1732 [a0, a1, a2, a3, a4, a5, a6, a7, a8] (.ref p2 :: .int p1 :: .ref p0 :: st) bc bs hp Q ↔ (2 ≤ bc ∧ 12 ≤ bs ∧ nsum st ≤ 8) ∧ Call kL_update [.ref p0, .int p1, .ref p2] hp (Aft kL_law 1735 [a0, a1, a2, a3, a4, a5, a6, a7, a8] st (bc - 2) (bs - 12) Q) := Go_inv (i := .invokestatic 233) rfl rfl rfl rfl rfl rfl
set_option maxRecDepth 100000 in
theorem sL_law_1735 {x : Int32} (hj : a5.category = 1) : Go kL_law 1735 [a0, a1, a2, a3, a4, a5, a6, a7, a8] (.int x :: st) bc bs hp Q ↔ Go kL_law 1737 [a0, a1, a2, a3, a4, a5, (.int x), a7, a8] st bc bs hp Q := Go_sto (i := .istore 6) (j := 6) (v := .int x) rfl rfl (Nat.le_of_ble_eq_true rfl) (decide_eq_true hj) rfl
set_option maxRecDepth 100000 in
theorem sL_law_1737 {x : Nat} : Go kL_law 1737 [a0, a1, (.ref x), a3, a4, a5, a6, a7, a8] st bc bs hp Q ↔ Go kL_law 1738 [a0, a1, (.ref x), a3, a4, a5, a6, a7, a8] (.ref x :: st) bc bs hp Q := Go_next (i := .aload_n 2) rfl rfl
set_option maxRecDepth 100000 in
theorem sL_law_1738 {x : Nat} : Go kL_law 1738 [(.ref x), a1, a2, a3, a4, a5, a6, a7, a8] st bc bs hp Q ↔ Go kL_law 1739 [(.ref x), a1, a2, a3, a4, a5, a6, a7, a8] (.ref x :: st) bc bs hp Q := Go_next (i := .aload_n 0) rfl rfl
set_option maxRecDepth 100000 in
theorem sL_law_1739 {x : Int32} : Go kL_law 1739 [a0, a1, a2, a3, a4, (.int x), a6, a7, a8] st bc bs hp Q ↔ Go kL_law 1741 [a0, a1, a2, a3, a4, (.int x), a6, a7, a8] (.int x :: st) bc bs hp Q := Go_next (i := .iload 5) rfl rfl
set_option maxRecDepth 100000 in
theorem sL_law_1741 : Go kL_law 1741 [a0, a1, a2, a3, a4, a5, a6, a7, a8] st bc bs hp Q ↔ Go kL_law 1742 [a0, a1, a2, a3, a4, a5, a6, a7, a8] (.int 1 :: st) bc bs hp Q := Go_next (i := .iconst 1) rfl rfl
set_option maxRecDepth 100000 in
theorem sL_law_1742 {x y : Int32} : Go kL_law 1742 [a0, a1, a2, a3, a4, a5, a6, a7, a8] (.int y :: .int x :: st) bc bs hp Q ↔ Go kL_law 1743 [a0, a1, a2, a3, a4, a5, a6, a7, a8] (.int (x + y) :: st) bc bs hp Q := Go_next (i := .iadd) rfl rfl
set_option maxRecDepth 100000 in
theorem sL_law_1743 {x : Nat} {i : Int32} : Go kL_law 1743 [a0, a1, a2, a3, a4, a5, a6, a7, a8] (.int i :: .ref x :: st) bc bs hp Q ↔ RdA hp x 0 i (fun v => Go kL_law 1744 [a0, a1, a2, a3, a4, a5, a6, a7, a8] (.int v :: st) bc bs hp Q) := Go_iald rfl
set_option maxRecDepth 100000 in
theorem sL_law_1744 {p0 : Int32} {x : Nat} : Go kL_law 1744 [a0, a1, a2, a3, a4, a5, a6, a7, a8] (.int p0 :: .ref x :: st) bc bs hp Q ↔ Rcv hp x 8 ∧ nsum st ≤ 8 ∧ Call kX8_update [.ref x, .int p0] hp (Aft kL_law 1747 [a0, a1, a2, a3, a4, a5, a6, a7, a8] st bc bs Q) := Go_invV0 rfl rfl rfl rfl rfl rfl rfl rfl rfl rfl
set_option maxRecDepth 100000 in
theorem sL_law_1747 {x : Int32} (hj : a6.category = 1) : Go kL_law 1747 [a0, a1, a2, a3, a4, a5, a6, a7, a8] (.int x :: st) bc bs hp Q ↔ Go kL_law 1749 [a0, a1, a2, a3, a4, a5, a6, (.int x), a8] st bc bs hp Q := Go_sto (i := .istore 7) (j := 7) (v := .int x) rfl rfl (Nat.le_of_ble_eq_true rfl) (decide_eq_true hj) rfl
set_option maxRecDepth 100000 in
theorem sL_law_1749 {x : Nat} : Go kL_law 1749 [a0, a1, (.ref x), a3, a4, a5, a6, a7, a8] st bc bs hp Q ↔ Go kL_law 1750 [a0, a1, (.ref x), a3, a4, a5, a6, a7, a8] (.ref x :: st) bc bs hp Q := Go_next (i := .aload_n 2) rfl rfl
set_option maxRecDepth 100000 in
theorem sL_law_1750 {x : Nat} : Go kL_law 1750 [a0, a1, a2, a3, a4, a5, a6, a7, a8] (.ref x :: st) bc bs hp Q ↔ Rcv hp x 8 ∧ nsum st ≤ 8 ∧ Call kX8_thrown [.ref x] hp (Aft kL_law 1753 [a0, a1, a2, a3, a4, a5, a6, a7, a8] st bc bs Q) := Go_invV0 rfl rfl rfl rfl rfl rfl rfl rfl rfl rfl
set_option maxRecDepth 100000 in
theorem sL_law_1753 {x : Int32} : Go kL_law 1753 [a0, a1, a2, a3, a4, a5, (.int x), a7, a8] st bc bs hp Q ↔ Go kL_law 1755 [a0, a1, a2, a3, a4, a5, (.int x), a7, a8] (.int x :: st) bc bs hp Q := Go_next (i := .iload 6) rfl rfl
set_option maxRecDepth 100000 in
theorem sL_law_1755 {x y : Int32} : Go kL_law 1755 [a0, a1, a2, a3, a4, a5, a6, a7, a8] (.int y :: .int x :: st) bc bs hp Q ↔ (x = y → Go kL_law 1760 [a0, a1, a2, a3, a4, a5, a6, a7, a8] st bc bs hp Q) ∧ (¬ x = y → Go kL_law 1758 [a0, a1, a2, a3, a4, a5, a6, a7, a8] st bc bs hp Q) := Go_ift (c := x = y) (i := .if_icmp .eq 5) rfl rfl
set_option maxRecDepth 100000 in
theorem sL_law_1758 : Go kL_law 1758 [a0, a1, a2, a3, a4, a5, a6, a7, a8] st bc bs hp Q ↔ Go kL_law 1759 [a0, a1, a2, a3, a4, a5, a6, a7, a8] (.int 0 :: st) bc bs hp Q := Go_next (i := .iconst 0) rfl rfl
set_option maxRecDepth 100000 in
theorem sL_law_1759 {x : Int32} : Go kL_law 1759 [a0, a1, a2, a3, a4, a5, a6, a7, a8] [.int x] bc bs hp Q ↔ outI kL_law x = true ∧ Q (.inl (some (.int x))) hp := Go_retIf (i := .ireturn) rfl rfl
set_option maxRecDepth 100000 in
theorem sL_law_1760 {x : Int32} : Go kL_law 1760 [a0, a1, a2, a3, a4, a5, (.int x), a7, a8] st bc bs hp Q ↔ Go kL_law 1762 [a0, a1, a2, a3, a4, a5, (.int x), a7, a8] (.int x :: st) bc bs hp Q := Go_next (i := .iload 6) rfl rfl
set_option maxRecDepth 100000 in
theorem sL_law_1762 {x : Int32} : Go kL_law 1762 [a0, a1, a2, a3, a4, a5, a6, a7, a8] (.int x :: st) bc bs hp Q ↔ (¬ x = 0 → Go kL_law 1777 [a0, a1, a2, a3, a4, a5, a6, a7, a8] st bc bs hp Q) ∧ (x = 0 → Go kL_law 1765 [a0, a1, a2, a3, a4, a5, a6, a7, a8] st bc bs hp Q) := Go_ifn (c := x = 0) (i := .ifCond .ne 15) rfl rfl
set_option maxRecDepth 100000 in
theorem sL_law_1765 {x : Nat} : Go kL_law 1765 [a0, a1, a2, (.ref x), a4, a5, a6, a7, a8] st bc bs hp Q ↔ Go kL_law 1766 [a0, a1, a2, (.ref x), a4, a5, a6, a7, a8] (.ref x :: st) bc bs hp Q := Go_next (i := .aload_n 3) rfl rfl
set_option maxRecDepth 100000 in
theorem sL_law_1766 : Go kL_law 1766 [a0, a1, a2, a3, a4, a5, a6, a7, a8] st bc bs hp Q ↔ Go kL_law 1767 [a0, a1, a2, a3, a4, a5, a6, a7, a8] (.int 0 :: st) bc bs hp Q := Go_next (i := .iconst 0) rfl rfl
set_option maxRecDepth 100000 in
theorem sL_law_1767 {x : Nat} {i : Int32} : Go kL_law 1767 [a0, a1, a2, a3, a4, a5, a6, a7, a8] (.int i :: .ref x :: st) bc bs hp Q ↔ RdL hp x i (fun v => Go kL_law 1768 [a0, a1, a2, a3, a4, a5, a6, a7, a8] (.long v :: st) bc bs hp Q) := Go_lald rfl
set_option maxRecDepth 100000 in
theorem sL_law_1768 {x : Int32} : Go kL_law 1768 [a0, a1, a2, a3, a4, a5, a6, (.int x), a8] st bc bs hp Q ↔ Go kL_law 1770 [a0, a1, a2, a3, a4, a5, a6, (.int x), a8] (.int x :: st) bc bs hp Q := Go_next (i := .iload 7) rfl rfl
set_option maxRecDepth 100000 in
theorem sL_law_1770 {x : Int32} : Go kL_law 1770 [a0, a1, a2, a3, a4, a5, a6, a7, a8] (.int x :: st) bc bs hp Q ↔ Go kL_law 1771 [a0, a1, a2, a3, a4, a5, a6, a7, a8] (.long x.toInt64 :: st) bc bs hp Q := Go_next (i := .i2l) rfl rfl
set_option maxRecDepth 100000 in
theorem sL_law_1771 {x y : Int64} : Go kL_law 1771 [a0, a1, a2, a3, a4, a5, a6, a7, a8] (.long y :: .long x :: st) bc bs hp Q ↔ Go kL_law 1772 [a0, a1, a2, a3, a4, a5, a6, a7, a8] (.int (lg_cmp x y) :: st) bc bs hp Q := Go_next (i := .lcmp) rfl rfl
set_option maxRecDepth 100000 in
theorem sL_law_1772 {x : Int32} : Go kL_law 1772 [a0, a1, a2, a3, a4, a5, a6, a7, a8] (.int x :: st) bc bs hp Q ↔ (x = 0 → Go kL_law 1777 [a0, a1, a2, a3, a4, a5, a6, a7, a8] st bc bs hp Q) ∧ (¬ x = 0 → Go kL_law 1775 [a0, a1, a2, a3, a4, a5, a6, a7, a8] st bc bs hp Q) := Go_ift (c := x = 0) (i := .ifCond .eq 5) rfl rfl
set_option maxRecDepth 100000 in
theorem sL_law_1775 : Go kL_law 1775 [a0, a1, a2, a3, a4, a5, a6, a7, a8] st bc bs hp Q ↔ Go kL_law 1776 [a0, a1, a2, a3, a4, a5, a6, a7, a8] (.int 0 :: st) bc bs hp Q := Go_next (i := .iconst 0) rfl rfl
set_option maxRecDepth 100000 in
theorem sL_law_1776 {x : Int32} : Go kL_law 1776 [a0, a1, a2, a3, a4, a5, a6, a7, a8] [.int x] bc bs hp Q ↔ outI kL_law x = true ∧ Q (.inl (some (.int x))) hp := Go_retIf (i := .ireturn) rfl rfl
set_option maxRecDepth 100000 in
theorem sL_law_1777 : Go kL_law 1777 [a0, a1, a2, a3, a4, a5, a6, a7, a8] st bc bs hp Q ↔ Go kL_law 3086 [a0, a1, a2, a3, a4, a5, a6, a7, a8] st bc bs hp Q := Go_next (i := .goto 1309) rfl rfl
set_option maxRecDepth 100000 in
theorem sL_law_1780 {x : Nat} : Go kL_law 1780 [a0, (.ref x), a2, a3, a4, a5, a6, a7, a8] st bc bs hp Q ↔ Go kL_law 1781 [a0, (.ref x), a2, a3, a4, a5, a6, a7, a8] (.ref x :: st) bc bs hp Q := Go_next (i := .aload_n 1) rfl rfl
set_option maxRecDepth 100000 in
theorem sL_law_1781 {x : Nat} : Go kL_law 1781 [(.ref x), a1, a2, a3, a4, a5, a6, a7, a8] st bc bs hp Q ↔ Go kL_law 1782 [(.ref x), a1, a2, a3, a4, a5, a6, a7, a8] (.ref x :: st) bc bs hp Q := Go_next (i := .aload_n 0) rfl rfl
set_option maxRecDepth 100000 in
theorem sL_law_1782 {x : Int32} : Go kL_law 1782 [a0, a1, a2, a3, a4, (.int x), a6, a7, a8] st bc bs hp Q ↔ Go kL_law 1784 [a0, a1, a2, a3, a4, (.int x), a6, a7, a8] (.int x :: st) bc bs hp Q := Go_next (i := .iload 5) rfl rfl
set_option maxRecDepth 100000 in
theorem sL_law_1784 : Go kL_law 1784 [a0, a1, a2, a3, a4, a5, a6, a7, a8] st bc bs hp Q ↔ Go kL_law 1785 [a0, a1, a2, a3, a4, a5, a6, a7, a8] (.int 1 :: st) bc bs hp Q := Go_next (i := .iconst 1) rfl rfl
set_option maxRecDepth 100000 in
theorem sL_law_1785 {x y : Int32} : Go kL_law 1785 [a0, a1, a2, a3, a4, a5, a6, a7, a8] (.int y :: .int x :: st) bc bs hp Q ↔ Go kL_law 1786 [a0, a1, a2, a3, a4, a5, a6, a7, a8] (.int (x + y) :: st) bc bs hp Q := Go_next (i := .iadd) rfl rfl
set_option maxRecDepth 100000 in
theorem sL_law_1786 {x : Nat} {i : Int32} : Go kL_law 1786 [a0, a1, a2, a3, a4, a5, a6, a7, a8] (.int i :: .ref x :: st) bc bs hp Q ↔ RdA hp x 0 i (fun v => Go kL_law 1787 [a0, a1, a2, a3, a4, a5, a6, a7, a8] (.int v :: st) bc bs hp Q) := Go_iald rfl
set_option maxRecDepth 100000 in
theorem sL_law_1787 {x : Nat} : Go kL_law 1787 [a0, a1, a2, (.ref x), a4, a5, a6, a7, a8] st bc bs hp Q ↔ Go kL_law 1788 [a0, a1, a2, (.ref x), a4, a5, a6, a7, a8] (.ref x :: st) bc bs hp Q := Go_next (i := .aload_n 3) rfl rfl
set_option maxRecDepth 100000 in
theorem sL_law_1788 {p0 : Nat} {p1 : Int32} {p2 : Nat} : Go kL_law 1788 [a0, a1, a2, a3, a4, a5, a6, a7, a8] (.ref p2 :: .int p1 :: .ref p0 :: st) bc bs hp Q ↔ (2 ≤ bc ∧ 12 ≤ bs ∧ nsum st ≤ 8) ∧ Call kL_pass [.ref p0, .int p1, .ref p2] hp (Aft kL_law 1791 [a0, a1, a2, a3, a4, a5, a6, a7, a8] st (bc - 2) (bs - 12) Q) := Go_inv (i := .invokestatic 236) rfl rfl rfl rfl rfl rfl
set_option maxRecDepth 100000 in
theorem sL_law_1791 {x : Int32} (hj : a5.category = 1) : Go kL_law 1791 [a0, a1, a2, a3, a4, a5, a6, a7, a8] (.int x :: st) bc bs hp Q ↔ Go kL_law 1793 [a0, a1, a2, a3, a4, a5, (.int x), a7, a8] st bc bs hp Q := Go_sto (i := .istore 6) (j := 6) (v := .int x) rfl rfl (Nat.le_of_ble_eq_true rfl) (decide_eq_true hj) rfl
set_option maxRecDepth 100000 in
theorem sL_law_1793 {x : Nat} : Go kL_law 1793 [a0, a1, (.ref x), a3, a4, a5, a6, a7, a8] st bc bs hp Q ↔ Go kL_law 1794 [a0, a1, (.ref x), a3, a4, a5, a6, a7, a8] (.ref x :: st) bc bs hp Q := Go_next (i := .aload_n 2) rfl rfl
set_option maxRecDepth 100000 in
theorem sL_law_1794 {x : Nat} : Go kL_law 1794 [(.ref x), a1, a2, a3, a4, a5, a6, a7, a8] st bc bs hp Q ↔ Go kL_law 1795 [(.ref x), a1, a2, a3, a4, a5, a6, a7, a8] (.ref x :: st) bc bs hp Q := Go_next (i := .aload_n 0) rfl rfl
set_option maxRecDepth 100000 in
theorem sL_law_1795 {x : Int32} : Go kL_law 1795 [a0, a1, a2, a3, a4, (.int x), a6, a7, a8] st bc bs hp Q ↔ Go kL_law 1797 [a0, a1, a2, a3, a4, (.int x), a6, a7, a8] (.int x :: st) bc bs hp Q := Go_next (i := .iload 5) rfl rfl
set_option maxRecDepth 100000 in
theorem sL_law_1797 : Go kL_law 1797 [a0, a1, a2, a3, a4, a5, a6, a7, a8] st bc bs hp Q ↔ Go kL_law 1798 [a0, a1, a2, a3, a4, a5, a6, a7, a8] (.int 1 :: st) bc bs hp Q := Go_next (i := .iconst 1) rfl rfl
set_option maxRecDepth 100000 in
theorem sL_law_1798 {x y : Int32} : Go kL_law 1798 [a0, a1, a2, a3, a4, a5, a6, a7, a8] (.int y :: .int x :: st) bc bs hp Q ↔ Go kL_law 1799 [a0, a1, a2, a3, a4, a5, a6, a7, a8] (.int (x + y) :: st) bc bs hp Q := Go_next (i := .iadd) rfl rfl
set_option maxRecDepth 100000 in
theorem sL_law_1799 {x : Nat} {i : Int32} : Go kL_law 1799 [a0, a1, a2, a3, a4, a5, a6, a7, a8] (.int i :: .ref x :: st) bc bs hp Q ↔ RdA hp x 0 i (fun v => Go kL_law 1800 [a0, a1, a2, a3, a4, a5, a6, a7, a8] (.int v :: st) bc bs hp Q) := Go_iald rfl
set_option maxRecDepth 100000 in
theorem sL_law_1800 {p0 : Int32} {x : Nat} : Go kL_law 1800 [a0, a1, a2, a3, a4, a5, a6, a7, a8] (.int p0 :: .ref x :: st) bc bs hp Q ↔ Rcv hp x 8 ∧ nsum st ≤ 8 ∧ Call kX8_pass [.ref x, .int p0] hp (Aft kL_law 1803 [a0, a1, a2, a3, a4, a5, a6, a7, a8] st bc bs Q) := Go_invV0 rfl rfl rfl rfl rfl rfl rfl rfl rfl rfl
set_option maxRecDepth 100000 in
theorem sL_law_1803 {x : Int32} (hj : a6.category = 1) : Go kL_law 1803 [a0, a1, a2, a3, a4, a5, a6, a7, a8] (.int x :: st) bc bs hp Q ↔ Go kL_law 1805 [a0, a1, a2, a3, a4, a5, a6, (.int x), a8] st bc bs hp Q := Go_sto (i := .istore 7) (j := 7) (v := .int x) rfl rfl (Nat.le_of_ble_eq_true rfl) (decide_eq_true hj) rfl
set_option maxRecDepth 100000 in
theorem sL_law_1805 {x : Nat} : Go kL_law 1805 [a0, a1, (.ref x), a3, a4, a5, a6, a7, a8] st bc bs hp Q ↔ Go kL_law 1806 [a0, a1, (.ref x), a3, a4, a5, a6, a7, a8] (.ref x :: st) bc bs hp Q := Go_next (i := .aload_n 2) rfl rfl
set_option maxRecDepth 100000 in
theorem sL_law_1806 {x : Nat} : Go kL_law 1806 [a0, a1, a2, a3, a4, a5, a6, a7, a8] (.ref x :: st) bc bs hp Q ↔ Rcv hp x 8 ∧ nsum st ≤ 8 ∧ Call kX8_thrown [.ref x] hp (Aft kL_law 1809 [a0, a1, a2, a3, a4, a5, a6, a7, a8] st bc bs Q) := Go_invV0 rfl rfl rfl rfl rfl rfl rfl rfl rfl rfl
set_option maxRecDepth 100000 in
theorem sL_law_1809 {x : Int32} : Go kL_law 1809 [a0, a1, a2, a3, a4, a5, (.int x), a7, a8] st bc bs hp Q ↔ Go kL_law 1811 [a0, a1, a2, a3, a4, a5, (.int x), a7, a8] (.int x :: st) bc bs hp Q := Go_next (i := .iload 6) rfl rfl
set_option maxRecDepth 100000 in
theorem sL_law_1811 {x y : Int32} : Go kL_law 1811 [a0, a1, a2, a3, a4, a5, a6, a7, a8] (.int y :: .int x :: st) bc bs hp Q ↔ (x = y → Go kL_law 1816 [a0, a1, a2, a3, a4, a5, a6, a7, a8] st bc bs hp Q) ∧ (¬ x = y → Go kL_law 1814 [a0, a1, a2, a3, a4, a5, a6, a7, a8] st bc bs hp Q) := Go_ift (c := x = y) (i := .if_icmp .eq 5) rfl rfl
set_option maxRecDepth 100000 in
theorem sL_law_1814 : Go kL_law 1814 [a0, a1, a2, a3, a4, a5, a6, a7, a8] st bc bs hp Q ↔ Go kL_law 1815 [a0, a1, a2, a3, a4, a5, a6, a7, a8] (.int 0 :: st) bc bs hp Q := Go_next (i := .iconst 0) rfl rfl
set_option maxRecDepth 100000 in
theorem sL_law_1815 {x : Int32} : Go kL_law 1815 [a0, a1, a2, a3, a4, a5, a6, a7, a8] [.int x] bc bs hp Q ↔ outI kL_law x = true ∧ Q (.inl (some (.int x))) hp := Go_retIf (i := .ireturn) rfl rfl
set_option maxRecDepth 100000 in
theorem sL_law_1816 {x : Int32} : Go kL_law 1816 [a0, a1, a2, a3, a4, a5, (.int x), a7, a8] st bc bs hp Q ↔ Go kL_law 1818 [a0, a1, a2, a3, a4, a5, (.int x), a7, a8] (.int x :: st) bc bs hp Q := Go_next (i := .iload 6) rfl rfl
set_option maxRecDepth 100000 in
theorem sL_law_1818 {x : Int32} : Go kL_law 1818 [a0, a1, a2, a3, a4, a5, a6, a7, a8] (.int x :: st) bc bs hp Q ↔ (¬ x = 0 → Go kL_law 1833 [a0, a1, a2, a3, a4, a5, a6, a7, a8] st bc bs hp Q) ∧ (x = 0 → Go kL_law 1821 [a0, a1, a2, a3, a4, a5, a6, a7, a8] st bc bs hp Q) := Go_ifn (c := x = 0) (i := .ifCond .ne 15) rfl rfl
set_option maxRecDepth 100000 in
theorem sL_law_1821 {x : Nat} : Go kL_law 1821 [a0, a1, a2, (.ref x), a4, a5, a6, a7, a8] st bc bs hp Q ↔ Go kL_law 1822 [a0, a1, a2, (.ref x), a4, a5, a6, a7, a8] (.ref x :: st) bc bs hp Q := Go_next (i := .aload_n 3) rfl rfl
set_option maxRecDepth 100000 in
theorem sL_law_1822 : Go kL_law 1822 [a0, a1, a2, a3, a4, a5, a6, a7, a8] st bc bs hp Q ↔ Go kL_law 1823 [a0, a1, a2, a3, a4, a5, a6, a7, a8] (.int 0 :: st) bc bs hp Q := Go_next (i := .iconst 0) rfl rfl
set_option maxRecDepth 100000 in
theorem sL_law_1823 {x : Nat} {i : Int32} : Go kL_law 1823 [a0, a1, a2, a3, a4, a5, a6, a7, a8] (.int i :: .ref x :: st) bc bs hp Q ↔ RdL hp x i (fun v => Go kL_law 1824 [a0, a1, a2, a3, a4, a5, a6, a7, a8] (.long v :: st) bc bs hp Q) := Go_lald rfl
set_option maxRecDepth 100000 in
theorem sL_law_1824 {x : Int32} : Go kL_law 1824 [a0, a1, a2, a3, a4, a5, a6, (.int x), a8] st bc bs hp Q ↔ Go kL_law 1826 [a0, a1, a2, a3, a4, a5, a6, (.int x), a8] (.int x :: st) bc bs hp Q := Go_next (i := .iload 7) rfl rfl
set_option maxRecDepth 100000 in
theorem sL_law_1826 {x : Int32} : Go kL_law 1826 [a0, a1, a2, a3, a4, a5, a6, a7, a8] (.int x :: st) bc bs hp Q ↔ Go kL_law 1827 [a0, a1, a2, a3, a4, a5, a6, a7, a8] (.long x.toInt64 :: st) bc bs hp Q := Go_next (i := .i2l) rfl rfl
set_option maxRecDepth 100000 in
theorem sL_law_1827 {x y : Int64} : Go kL_law 1827 [a0, a1, a2, a3, a4, a5, a6, a7, a8] (.long y :: .long x :: st) bc bs hp Q ↔ Go kL_law 1828 [a0, a1, a2, a3, a4, a5, a6, a7, a8] (.int (lg_cmp x y) :: st) bc bs hp Q := Go_next (i := .lcmp) rfl rfl
set_option maxRecDepth 100000 in
theorem sL_law_1828 {x : Int32} : Go kL_law 1828 [a0, a1, a2, a3, a4, a5, a6, a7, a8] (.int x :: st) bc bs hp Q ↔ (x = 0 → Go kL_law 1833 [a0, a1, a2, a3, a4, a5, a6, a7, a8] st bc bs hp Q) ∧ (¬ x = 0 → Go kL_law 1831 [a0, a1, a2, a3, a4, a5, a6, a7, a8] st bc bs hp Q) := Go_ift (c := x = 0) (i := .ifCond .eq 5) rfl rfl
set_option maxRecDepth 100000 in
theorem sL_law_1831 : Go kL_law 1831 [a0, a1, a2, a3, a4, a5, a6, a7, a8] st bc bs hp Q ↔ Go kL_law 1832 [a0, a1, a2, a3, a4, a5, a6, a7, a8] (.int 0 :: st) bc bs hp Q := Go_next (i := .iconst 0) rfl rfl
set_option maxRecDepth 100000 in
theorem sL_law_1832 {x : Int32} : Go kL_law 1832 [a0, a1, a2, a3, a4, a5, a6, a7, a8] [.int x] bc bs hp Q ↔ outI kL_law x = true ∧ Q (.inl (some (.int x))) hp := Go_retIf (i := .ireturn) rfl rfl
set_option maxRecDepth 100000 in
theorem sL_law_1833 : Go kL_law 1833 [a0, a1, a2, a3, a4, a5, a6, a7, a8] st bc bs hp Q ↔ Go kL_law 3086 [a0, a1, a2, a3, a4, a5, a6, a7, a8] st bc bs hp Q := Go_next (i := .goto 1253) rfl rfl
set_option maxRecDepth 100000 in
theorem sL_law_1836 {x : Nat} : Go kL_law 1836 [a0, (.ref x), a2, a3, a4, a5, a6, a7, a8] st bc bs hp Q ↔ Go kL_law 1837 [a0, (.ref x), a2, a3, a4, a5, a6, a7, a8] (.ref x :: st) bc bs hp Q := Go_next (i := .aload_n 1) rfl rfl
set_option maxRecDepth 100000 in
theorem sL_law_1837 {x : Nat} : Go kL_law 1837 [(.ref x), a1, a2, a3, a4, a5, a6, a7, a8] st bc bs hp Q ↔ Go kL_law 1838 [(.ref x), a1, a2, a3, a4, a5, a6, a7, a8] (.ref x :: st) bc bs hp Q := Go_next (i := .aload_n 0) rfl rfl
set_option maxRecDepth 100000 in
theorem sL_law_1838 {x : Int32} : Go kL_law 1838 [a0, a1, a2, a3, a4, (.int x), a6, a7, a8] st bc bs hp Q ↔ Go kL_law 1840 [a0, a1, a2, a3, a4, (.int x), a6, a7, a8] (.int x :: st) bc bs hp Q := Go_next (i := .iload 5) rfl rfl
set_option maxRecDepth 100000 in
theorem sL_law_1840 : Go kL_law 1840 [a0, a1, a2, a3, a4, a5, a6, a7, a8] st bc bs hp Q ↔ Go kL_law 1841 [a0, a1, a2, a3, a4, a5, a6, a7, a8] (.int 1 :: st) bc bs hp Q := Go_next (i := .iconst 1) rfl rfl
set_option maxRecDepth 100000 in
theorem sL_law_1841 {x y : Int32} : Go kL_law 1841 [a0, a1, a2, a3, a4, a5, a6, a7, a8] (.int y :: .int x :: st) bc bs hp Q ↔ Go kL_law 1842 [a0, a1, a2, a3, a4, a5, a6, a7, a8] (.int (x + y) :: st) bc bs hp Q := Go_next (i := .iadd) rfl rfl
set_option maxRecDepth 100000 in
theorem sL_law_1842 {x : Nat} {i : Int32} : Go kL_law 1842 [a0, a1, a2, a3, a4, a5, a6, a7, a8] (.int i :: .ref x :: st) bc bs hp Q ↔ RdA hp x 0 i (fun v => Go kL_law 1843 [a0, a1, a2, a3, a4, a5, a6, a7, a8] (.int v :: st) bc bs hp Q) := Go_iald rfl
set_option maxRecDepth 100000 in
theorem sL_law_1843 {x : Nat} : Go kL_law 1843 [a0, a1, a2, (.ref x), a4, a5, a6, a7, a8] st bc bs hp Q ↔ Go kL_law 1844 [a0, a1, a2, (.ref x), a4, a5, a6, a7, a8] (.ref x :: st) bc bs hp Q := Go_next (i := .aload_n 3) rfl rfl
set_option maxRecDepth 100000 in
theorem sL_law_1844 {p0 : Nat} {p1 : Int32} {p2 : Nat} : Go kL_law 1844 [a0, a1, a2, a3, a4, a5, a6, a7, a8] (.ref p2 :: .int p1 :: .ref p0 :: st) bc bs hp Q ↔ (1 ≤ bc ∧ 6 ≤ bs ∧ nsum st ≤ 8) ∧ Call kL_code [.ref p0, .int p1, .ref p2] hp (Aft kL_law 1847 [a0, a1, a2, a3, a4, a5, a6, a7, a8] st (bc - 1) (bs - 6) Q) := Go_inv (i := .invokestatic 239) rfl rfl rfl rfl rfl rfl
set_option maxRecDepth 100000 in
theorem sL_law_1847 {x : Int32} (hj : a5.category = 1) : Go kL_law 1847 [a0, a1, a2, a3, a4, a5, a6, a7, a8] (.int x :: st) bc bs hp Q ↔ Go kL_law 1849 [a0, a1, a2, a3, a4, a5, (.int x), a7, a8] st bc bs hp Q := Go_sto (i := .istore 6) (j := 6) (v := .int x) rfl rfl (Nat.le_of_ble_eq_true rfl) (decide_eq_true hj) rfl
set_option maxRecDepth 100000 in
theorem sL_law_1849 {x : Nat} : Go kL_law 1849 [a0, a1, (.ref x), a3, a4, a5, a6, a7, a8] st bc bs hp Q ↔ Go kL_law 1850 [a0, a1, (.ref x), a3, a4, a5, a6, a7, a8] (.ref x :: st) bc bs hp Q := Go_next (i := .aload_n 2) rfl rfl
set_option maxRecDepth 100000 in
theorem sL_law_1850 {x : Nat} : Go kL_law 1850 [(.ref x), a1, a2, a3, a4, a5, a6, a7, a8] st bc bs hp Q ↔ Go kL_law 1851 [(.ref x), a1, a2, a3, a4, a5, a6, a7, a8] (.ref x :: st) bc bs hp Q := Go_next (i := .aload_n 0) rfl rfl
set_option maxRecDepth 100000 in
theorem sL_law_1851 {x : Int32} : Go kL_law 1851 [a0, a1, a2, a3, a4, (.int x), a6, a7, a8] st bc bs hp Q ↔ Go kL_law 1853 [a0, a1, a2, a3, a4, (.int x), a6, a7, a8] (.int x :: st) bc bs hp Q := Go_next (i := .iload 5) rfl rfl
set_option maxRecDepth 100000 in
theorem sL_law_1853 : Go kL_law 1853 [a0, a1, a2, a3, a4, a5, a6, a7, a8] st bc bs hp Q ↔ Go kL_law 1854 [a0, a1, a2, a3, a4, a5, a6, a7, a8] (.int 1 :: st) bc bs hp Q := Go_next (i := .iconst 1) rfl rfl
set_option maxRecDepth 100000 in
theorem sL_law_1854 {x y : Int32} : Go kL_law 1854 [a0, a1, a2, a3, a4, a5, a6, a7, a8] (.int y :: .int x :: st) bc bs hp Q ↔ Go kL_law 1855 [a0, a1, a2, a3, a4, a5, a6, a7, a8] (.int (x + y) :: st) bc bs hp Q := Go_next (i := .iadd) rfl rfl
set_option maxRecDepth 100000 in
theorem sL_law_1855 {x : Nat} {i : Int32} : Go kL_law 1855 [a0, a1, a2, a3, a4, a5, a6, a7, a8] (.int i :: .ref x :: st) bc bs hp Q ↔ RdA hp x 0 i (fun v => Go kL_law 1856 [a0, a1, a2, a3, a4, a5, a6, a7, a8] (.int v :: st) bc bs hp Q) := Go_iald rfl
set_option maxRecDepth 100000 in
theorem sL_law_1856 {p0 : Int32} {x : Nat} : Go kL_law 1856 [a0, a1, a2, a3, a4, a5, a6, a7, a8] (.int p0 :: .ref x :: st) bc bs hp Q ↔ Rcv hp x 8 ∧ nsum st ≤ 8 ∧ Call kX8_code [.ref x, .int p0] hp (Aft kL_law 1859 [a0, a1, a2, a3, a4, a5, a6, a7, a8] st bc bs Q) := Go_invV0 rfl rfl rfl rfl rfl rfl rfl rfl rfl rfl
set_option maxRecDepth 100000 in
theorem sL_law_1859 {x : Int32} (hj : a6.category = 1) : Go kL_law 1859 [a0, a1, a2, a3, a4, a5, a6, a7, a8] (.int x :: st) bc bs hp Q ↔ Go kL_law 1861 [a0, a1, a2, a3, a4, a5, a6, (.int x), a8] st bc bs hp Q := Go_sto (i := .istore 7) (j := 7) (v := .int x) rfl rfl (Nat.le_of_ble_eq_true rfl) (decide_eq_true hj) rfl
set_option maxRecDepth 100000 in
theorem sL_law_1861 {x : Nat} : Go kL_law 1861 [a0, a1, (.ref x), a3, a4, a5, a6, a7, a8] st bc bs hp Q ↔ Go kL_law 1862 [a0, a1, (.ref x), a3, a4, a5, a6, a7, a8] (.ref x :: st) bc bs hp Q := Go_next (i := .aload_n 2) rfl rfl
set_option maxRecDepth 100000 in
theorem sL_law_1862 {x : Nat} : Go kL_law 1862 [a0, a1, a2, a3, a4, a5, a6, a7, a8] (.ref x :: st) bc bs hp Q ↔ Rcv hp x 8 ∧ nsum st ≤ 8 ∧ Call kX8_thrown [.ref x] hp (Aft kL_law 1865 [a0, a1, a2, a3, a4, a5, a6, a7, a8] st bc bs Q) := Go_invV0 rfl rfl rfl rfl rfl rfl rfl rfl rfl rfl
set_option maxRecDepth 100000 in
theorem sL_law_1865 {x : Int32} : Go kL_law 1865 [a0, a1, a2, a3, a4, a5, (.int x), a7, a8] st bc bs hp Q ↔ Go kL_law 1867 [a0, a1, a2, a3, a4, a5, (.int x), a7, a8] (.int x :: st) bc bs hp Q := Go_next (i := .iload 6) rfl rfl
set_option maxRecDepth 100000 in
theorem sL_law_1867 {x y : Int32} : Go kL_law 1867 [a0, a1, a2, a3, a4, a5, a6, a7, a8] (.int y :: .int x :: st) bc bs hp Q ↔ (x = y → Go kL_law 1872 [a0, a1, a2, a3, a4, a5, a6, a7, a8] st bc bs hp Q) ∧ (¬ x = y → Go kL_law 1870 [a0, a1, a2, a3, a4, a5, a6, a7, a8] st bc bs hp Q) := Go_ift (c := x = y) (i := .if_icmp .eq 5) rfl rfl
set_option maxRecDepth 100000 in
theorem sL_law_1870 : Go kL_law 1870 [a0, a1, a2, a3, a4, a5, a6, a7, a8] st bc bs hp Q ↔ Go kL_law 1871 [a0, a1, a2, a3, a4, a5, a6, a7, a8] (.int 0 :: st) bc bs hp Q := Go_next (i := .iconst 0) rfl rfl
set_option maxRecDepth 100000 in
theorem sL_law_1871 {x : Int32} : Go kL_law 1871 [a0, a1, a2, a3, a4, a5, a6, a7, a8] [.int x] bc bs hp Q ↔ outI kL_law x = true ∧ Q (.inl (some (.int x))) hp := Go_retIf (i := .ireturn) rfl rfl
set_option maxRecDepth 100000 in
theorem sL_law_1872 {x : Int32} : Go kL_law 1872 [a0, a1, a2, a3, a4, a5, (.int x), a7, a8] st bc bs hp Q ↔ Go kL_law 1874 [a0, a1, a2, a3, a4, a5, (.int x), a7, a8] (.int x :: st) bc bs hp Q := Go_next (i := .iload 6) rfl rfl
set_option maxRecDepth 100000 in
theorem sL_law_1874 {x : Int32} : Go kL_law 1874 [a0, a1, a2, a3, a4, a5, a6, a7, a8] (.int x :: st) bc bs hp Q ↔ (¬ x = 0 → Go kL_law 1889 [a0, a1, a2, a3, a4, a5, a6, a7, a8] st bc bs hp Q) ∧ (x = 0 → Go kL_law 1877 [a0, a1, a2, a3, a4, a5, a6, a7, a8] st bc bs hp Q) := Go_ifn (c := x = 0) (i := .ifCond .ne 15) rfl rfl
set_option maxRecDepth 100000 in
theorem sL_law_1877 {x : Nat} : Go kL_law 1877 [a0, a1, a2, (.ref x), a4, a5, a6, a7, a8] st bc bs hp Q ↔ Go kL_law 1878 [a0, a1, a2, (.ref x), a4, a5, a6, a7, a8] (.ref x :: st) bc bs hp Q := Go_next (i := .aload_n 3) rfl rfl
set_option maxRecDepth 100000 in
theorem sL_law_1878 : Go kL_law 1878 [a0, a1, a2, a3, a4, a5, a6, a7, a8] st bc bs hp Q ↔ Go kL_law 1879 [a0, a1, a2, a3, a4, a5, a6, a7, a8] (.int 0 :: st) bc bs hp Q := Go_next (i := .iconst 0) rfl rfl
set_option maxRecDepth 100000 in
theorem sL_law_1879 {x : Nat} {i : Int32} : Go kL_law 1879 [a0, a1, a2, a3, a4, a5, a6, a7, a8] (.int i :: .ref x :: st) bc bs hp Q ↔ RdL hp x i (fun v => Go kL_law 1880 [a0, a1, a2, a3, a4, a5, a6, a7, a8] (.long v :: st) bc bs hp Q) := Go_lald rfl
set_option maxRecDepth 100000 in
theorem sL_law_1880 {x : Int32} : Go kL_law 1880 [a0, a1, a2, a3, a4, a5, a6, (.int x), a8] st bc bs hp Q ↔ Go kL_law 1882 [a0, a1, a2, a3, a4, a5, a6, (.int x), a8] (.int x :: st) bc bs hp Q := Go_next (i := .iload 7) rfl rfl
set_option maxRecDepth 100000 in
theorem sL_law_1882 {x : Int32} : Go kL_law 1882 [a0, a1, a2, a3, a4, a5, a6, a7, a8] (.int x :: st) bc bs hp Q ↔ Go kL_law 1883 [a0, a1, a2, a3, a4, a5, a6, a7, a8] (.long x.toInt64 :: st) bc bs hp Q := Go_next (i := .i2l) rfl rfl
set_option maxRecDepth 100000 in
theorem sL_law_1883 {x y : Int64} : Go kL_law 1883 [a0, a1, a2, a3, a4, a5, a6, a7, a8] (.long y :: .long x :: st) bc bs hp Q ↔ Go kL_law 1884 [a0, a1, a2, a3, a4, a5, a6, a7, a8] (.int (lg_cmp x y) :: st) bc bs hp Q := Go_next (i := .lcmp) rfl rfl
set_option maxRecDepth 100000 in
theorem sL_law_1884 {x : Int32} : Go kL_law 1884 [a0, a1, a2, a3, a4, a5, a6, a7, a8] (.int x :: st) bc bs hp Q ↔ (x = 0 → Go kL_law 1889 [a0, a1, a2, a3, a4, a5, a6, a7, a8] st bc bs hp Q) ∧ (¬ x = 0 → Go kL_law 1887 [a0, a1, a2, a3, a4, a5, a6, a7, a8] st bc bs hp Q) := Go_ift (c := x = 0) (i := .ifCond .eq 5) rfl rfl
set_option maxRecDepth 100000 in
theorem sL_law_1887 : Go kL_law 1887 [a0, a1, a2, a3, a4, a5, a6, a7, a8] st bc bs hp Q ↔ Go kL_law 1888 [a0, a1, a2, a3, a4, a5, a6, a7, a8] (.int 0 :: st) bc bs hp Q := Go_next (i := .iconst 0) rfl rfl
set_option maxRecDepth 100000 in
theorem sL_law_1888 {x : Int32} : Go kL_law 1888 [a0, a1, a2, a3, a4, a5, a6, a7, a8] [.int x] bc bs hp Q ↔ outI kL_law x = true ∧ Q (.inl (some (.int x))) hp := Go_retIf (i := .ireturn) rfl rfl
set_option maxRecDepth 100000 in
theorem sL_law_1889 : Go kL_law 1889 [a0, a1, a2, a3, a4, a5, a6, a7, a8] st bc bs hp Q ↔ Go kL_law 3086 [a0, a1, a2, a3, a4, a5, a6, a7, a8] st bc bs hp Q := Go_next (i := .goto 1197) rfl rfl
set_option maxRecDepth 100000 in
theorem sL_law_1892 {x : Nat} : Go kL_law 1892 [a0, (.ref x), a2, a3, a4, a5, a6, a7, a8] st bc bs hp Q ↔ Go kL_law 1893 [a0, (.ref x), a2, a3, a4, a5, a6, a7, a8] (.ref x :: st) bc bs hp Q := Go_next (i := .aload_n 1) rfl rfl
set_option maxRecDepth 100000 in
theorem sL_law_1893 {x : Nat} : Go kL_law 1893 [(.ref x), a1, a2, a3, a4, a5, a6, a7, a8] st bc bs hp Q ↔ Go kL_law 1894 [(.ref x), a1, a2, a3, a4, a5, a6, a7, a8] (.ref x :: st) bc bs hp Q := Go_next (i := .aload_n 0) rfl rfl
set_option maxRecDepth 100000 in
theorem sL_law_1894 {x : Int32} : Go kL_law 1894 [a0, a1, a2, a3, a4, (.int x), a6, a7, a8] st bc bs hp Q ↔ Go kL_law 1896 [a0, a1, a2, a3, a4, (.int x), a6, a7, a8] (.int x :: st) bc bs hp Q := Go_next (i := .iload 5) rfl rfl
set_option maxRecDepth 100000 in
theorem sL_law_1896 : Go kL_law 1896 [a0, a1, a2, a3, a4, a5, a6, a7, a8] st bc bs hp Q ↔ Go kL_law 1897 [a0, a1, a2, a3, a4, a5, a6, a7, a8] (.int 1 :: st) bc bs hp Q := Go_next (i := .iconst 1) rfl rfl
set_option maxRecDepth 100000 in
theorem sL_law_1897 {x y : Int32} : Go kL_law 1897 [a0, a1, a2, a3, a4, a5, a6, a7, a8] (.int y :: .int x :: st) bc bs hp Q ↔ Go kL_law 1898 [a0, a1, a2, a3, a4, a5, a6, a7, a8] (.int (x + y) :: st) bc bs hp Q := Go_next (i := .iadd) rfl rfl
set_option maxRecDepth 100000 in
theorem sL_law_1898 {x : Nat} {i : Int32} : Go kL_law 1898 [a0, a1, a2, a3, a4, a5, a6, a7, a8] (.int i :: .ref x :: st) bc bs hp Q ↔ RdA hp x 0 i (fun v => Go kL_law 1899 [a0, a1, a2, a3, a4, a5, a6, a7, a8] (.int v :: st) bc bs hp Q) := Go_iald rfl
set_option maxRecDepth 100000 in
theorem sL_law_1899 {x : Nat} : Go kL_law 1899 [(.ref x), a1, a2, a3, a4, a5, a6, a7, a8] st bc bs hp Q ↔ Go kL_law 1900 [(.ref x), a1, a2, a3, a4, a5, a6, a7, a8] (.ref x :: st) bc bs hp Q := Go_next (i := .aload_n 0) rfl rfl
set_option maxRecDepth 100000 in
theorem sL_law_1900 {x : Int32} : Go kL_law 1900 [a0, a1, a2, a3, a4, (.int x), a6, a7, a8] st bc bs hp Q ↔ Go kL_law 1902 [a0, a1, a2, a3, a4, (.int x), a6, a7, a8] (.int x :: st) bc bs hp Q := Go_next (i := .iload 5) rfl rfl
set_option maxRecDepth 100000 in
theorem sL_law_1902 : Go kL_law 1902 [a0, a1, a2, a3, a4, a5, a6, a7, a8] st bc bs hp Q ↔ Go kL_law 1903 [a0, a1, a2, a3, a4, a5, a6, a7, a8] (.int 2 :: st) bc bs hp Q := Go_next (i := .iconst 2) rfl rfl
set_option maxRecDepth 100000 in
theorem sL_law_1903 {x y : Int32} : Go kL_law 1903 [a0, a1, a2, a3, a4, a5, a6, a7, a8] (.int y :: .int x :: st) bc bs hp Q ↔ Go kL_law 1904 [a0, a1, a2, a3, a4, a5, a6, a7, a8] (.int (x + y) :: st) bc bs hp Q := Go_next (i := .iadd) rfl rfl
set_option maxRecDepth 100000 in
theorem sL_law_1904 {x : Nat} {i : Int32} : Go kL_law 1904 [a0, a1, a2, a3, a4, a5, a6, a7, a8] (.int i :: .ref x :: st) bc bs hp Q ↔ RdA hp x 0 i (fun v => Go kL_law 1905 [a0, a1, a2, a3, a4, a5, a6, a7, a8] (.int v :: st) bc bs hp Q) := Go_iald rfl
set_option maxRecDepth 100000 in
theorem sL_law_1905 {x : Nat} : Go kL_law 1905 [(.ref x), a1, a2, a3, a4, a5, a6, a7, a8] st bc bs hp Q ↔ Go kL_law 1906 [(.ref x), a1, a2, a3, a4, a5, a6, a7, a8] (.ref x :: st) bc bs hp Q := Go_next (i := .aload_n 0) rfl rfl
set_option maxRecDepth 100000 in
theorem sL_law_1906 {x : Int32} : Go kL_law 1906 [a0, a1, a2, a3, a4, (.int x), a6, a7, a8] st bc bs hp Q ↔ Go kL_law 1908 [a0, a1, a2, a3, a4, (.int x), a6, a7, a8] (.int x :: st) bc bs hp Q := Go_next (i := .iload 5) rfl rfl
set_option maxRecDepth 100000 in
theorem sL_law_1908 : Go kL_law 1908 [a0, a1, a2, a3, a4, a5, a6, a7, a8] st bc bs hp Q ↔ Go kL_law 1909 [a0, a1, a2, a3, a4, a5, a6, a7, a8] (.int 3 :: st) bc bs hp Q := Go_next (i := .iconst 3) rfl rfl
set_option maxRecDepth 100000 in
theorem sL_law_1909 {x y : Int32} : Go kL_law 1909 [a0, a1, a2, a3, a4, a5, a6, a7, a8] (.int y :: .int x :: st) bc bs hp Q ↔ Go kL_law 1910 [a0, a1, a2, a3, a4, a5, a6, a7, a8] (.int (x + y) :: st) bc bs hp Q := Go_next (i := .iadd) rfl rfl
set_option maxRecDepth 100000 in
theorem sL_law_1910 {x : Nat} {i : Int32} : Go kL_law 1910 [a0, a1, a2, a3, a4, a5, a6, a7, a8] (.int i :: .ref x :: st) bc bs hp Q ↔ RdA hp x 0 i (fun v => Go kL_law 1911 [a0, a1, a2, a3, a4, a5, a6, a7, a8] (.int v :: st) bc bs hp Q) := Go_iald rfl
set_option maxRecDepth 100000 in
theorem sL_law_1911 {x : Int32} : Go kL_law 1911 [a0, a1, a2, a3, a4, a5, a6, a7, a8] (.int x :: st) bc bs hp Q ↔ Go kL_law 1912 [a0, a1, a2, a3, a4, a5, a6, a7, a8] (.int (x.toUInt32 % 65536).toInt32 :: st) bc bs hp Q := Go_next (i := .i2c) rfl rfl
set_option maxRecDepth 100000 in
theorem sL_law_1912 {x : Nat} : Go kL_law 1912 [(.ref x), a1, a2, a3, a4, a5, a6, a7, a8] st bc bs hp Q ↔ Go kL_law 1913 [(.ref x), a1, a2, a3, a4, a5, a6, a7, a8] (.ref x :: st) bc bs hp Q := Go_next (i := .aload_n 0) rfl rfl
set_option maxRecDepth 100000 in
theorem sL_law_1913 {x : Int32} : Go kL_law 1913 [a0, a1, a2, a3, a4, (.int x), a6, a7, a8] st bc bs hp Q ↔ Go kL_law 1915 [a0, a1, a2, a3, a4, (.int x), a6, a7, a8] (.int x :: st) bc bs hp Q := Go_next (i := .iload 5) rfl rfl
set_option maxRecDepth 100000 in
theorem sL_law_1915 : Go kL_law 1915 [a0, a1, a2, a3, a4, a5, a6, a7, a8] st bc bs hp Q ↔ Go kL_law 1916 [a0, a1, a2, a3, a4, a5, a6, a7, a8] (.int 4 :: st) bc bs hp Q := Go_next (i := .iconst 4) rfl rfl
set_option maxRecDepth 100000 in
theorem sL_law_1916 {x y : Int32} : Go kL_law 1916 [a0, a1, a2, a3, a4, a5, a6, a7, a8] (.int y :: .int x :: st) bc bs hp Q ↔ Go kL_law 1917 [a0, a1, a2, a3, a4, a5, a6, a7, a8] (.int (x + y) :: st) bc bs hp Q := Go_next (i := .iadd) rfl rfl
set_option maxRecDepth 100000 in
theorem sL_law_1917 {x : Nat} {i : Int32} : Go kL_law 1917 [a0, a1, a2, a3, a4, a5, a6, a7, a8] (.int i :: .ref x :: st) bc bs hp Q ↔ RdA hp x 0 i (fun v => Go kL_law 1918 [a0, a1, a2, a3, a4, a5, a6, a7, a8] (.int v :: st) bc bs hp Q) := Go_iald rfl
set_option maxRecDepth 100000 in
theorem sL_law_1918 {x : Nat} : Go kL_law 1918 [(.ref x), a1, a2, a3, a4, a5, a6, a7, a8] st bc bs hp Q ↔ Go kL_law 1919 [(.ref x), a1, a2, a3, a4, a5, a6, a7, a8] (.ref x :: st) bc bs hp Q := Go_next (i := .aload_n 0) rfl rfl
set_option maxRecDepth 100000 in
theorem sL_law_1919 {x : Int32} : Go kL_law 1919 [a0, a1, a2, a3, a4, (.int x), a6, a7, a8] st bc bs hp Q ↔ Go kL_law 1921 [a0, a1, a2, a3, a4, (.int x), a6, a7, a8] (.int x :: st) bc bs hp Q := Go_next (i := .iload 5) rfl rfl
set_option maxRecDepth 100000 in
theorem sL_law_1921 : Go kL_law 1921 [a0, a1, a2, a3, a4, a5, a6, a7, a8] st bc bs hp Q ↔ Go kL_law 1922 [a0, a1, a2, a3, a4, a5, a6, a7, a8] (.int 5 :: st) bc bs hp Q := Go_next (i := .iconst 5) rfl rfl
set_option maxRecDepth 100000 in
theorem sL_law_1922 {x y : Int32} : Go kL_law 1922 [a0, a1, a2, a3, a4, a5, a6, a7, a8] (.int y :: .int x :: st) bc bs hp Q ↔ Go kL_law 1923 [a0, a1, a2, a3, a4, a5, a6, a7, a8] (.int (x + y) :: st) bc bs hp Q := Go_next (i := .iadd) rfl rfl
set_option maxRecDepth 100000 in
theorem sL_law_1923 {x : Nat} {i : Int32} : Go kL_law 1923 [a0, a1, a2, a3, a4, a5, a6, a7, a8] (.int i :: .ref x :: st) bc bs hp Q ↔ RdA hp x 0 i (fun v => Go kL_law 1924 [a0, a1, a2, a3, a4, a5, a6, a7, a8] (.int v :: st) bc bs hp Q) := Go_iald rfl
set_option maxRecDepth 100000 in
theorem sL_law_1924 {x : Nat} : Go kL_law 1924 [(.ref x), a1, a2, a3, a4, a5, a6, a7, a8] st bc bs hp Q ↔ Go kL_law 1925 [(.ref x), a1, a2, a3, a4, a5, a6, a7, a8] (.ref x :: st) bc bs hp Q := Go_next (i := .aload_n 0) rfl rfl
set_option maxRecDepth 100000 in
theorem sL_law_1925 {x : Int32} : Go kL_law 1925 [a0, a1, a2, a3, a4, (.int x), a6, a7, a8] st bc bs hp Q ↔ Go kL_law 1927 [a0, a1, a2, a3, a4, (.int x), a6, a7, a8] (.int x :: st) bc bs hp Q := Go_next (i := .iload 5) rfl rfl
set_option maxRecDepth 100000 in
theorem sL_law_1927 : Go kL_law 1927 [a0, a1, a2, a3, a4, a5, a6, a7, a8] st bc bs hp Q ↔ Go kL_law 1929 [a0, a1, a2, a3, a4, a5, a6, a7, a8] (.int 6 :: st) bc bs hp Q := Go_next (i := .bipush 6) rfl rfl
set_option maxRecDepth 100000 in
theorem sL_law_1929 {x y : Int32} : Go kL_law 1929 [a0, a1, a2, a3, a4, a5, a6, a7, a8] (.int y :: .int x :: st) bc bs hp Q ↔ Go kL_law 1930 [a0, a1, a2, a3, a4, a5, a6, a7, a8] (.int (x + y) :: st) bc bs hp Q := Go_next (i := .iadd) rfl rfl
set_option maxRecDepth 100000 in
theorem sL_law_1930 {x : Nat} {i : Int32} : Go kL_law 1930 [a0, a1, a2, a3, a4, a5, a6, a7, a8] (.int i :: .ref x :: st) bc bs hp Q ↔ RdA hp x 0 i (fun v => Go kL_law 1931 [a0, a1, a2, a3, a4, a5, a6, a7, a8] (.int v :: st) bc bs hp Q) := Go_iald rfl
set_option maxRecDepth 100000 in
theorem sL_law_1931 {x : Nat} : Go kL_law 1931 [a0, a1, a2, (.ref x), a4, a5, a6, a7, a8] st bc bs hp Q ↔ Go kL_law 1932 [a0, a1, a2, (.ref x), a4, a5, a6, a7, a8] (.ref x :: st) bc bs hp Q := Go_next (i := .aload_n 3) rfl rfl
set_option maxRecDepth 100000 in
theorem sL_law_1932 {p0 : Nat} {p1 : Int32} {p2 : Int32} {p3 : Int32} {p4 : Int32} {p5 : Int32} {p6 : Int32} {p7 : Nat} : Go kL_law 1932 [a0, a1, a2, a3, a4, a5, a6, a7, a8] (.ref p7 :: .int p6 :: .int p5 :: .int p4 :: .int p3 :: .int p2 :: .int p1 :: .ref p0 :: st) bc bs hp Q ↔ (6 ≤ bc ∧ 36 ≤ bs ∧ nsum st ≤ 8) ∧ Call kL_addEffect [.ref p0, .int p1, .int p2, .int p3, .int p4, .int p5, .int p6, .ref p7] hp (Aft kL_law 1935 [a0, a1, a2, a3, a4, a5, a6, a7, a8] st (bc - 6) (bs - 36) Q) := Go_inv (i := .invokestatic 242) rfl rfl rfl rfl rfl rfl
set_option maxRecDepth 100000 in
theorem sL_law_1935 {x : Int32} (hj : a5.category = 1) : Go kL_law 1935 [a0, a1, a2, a3, a4, a5, a6, a7, a8] (.int x :: st) bc bs hp Q ↔ Go kL_law 1937 [a0, a1, a2, a3, a4, a5, (.int x), a7, a8] st bc bs hp Q := Go_sto (i := .istore 6) (j := 6) (v := .int x) rfl rfl (Nat.le_of_ble_eq_true rfl) (decide_eq_true hj) rfl
set_option maxRecDepth 100000 in
theorem sL_law_1937 {x : Nat} : Go kL_law 1937 [a0, a1, (.ref x), a3, a4, a5, a6, a7, a8] st bc bs hp Q ↔ Go kL_law 1938 [a0, a1, (.ref x), a3, a4, a5, a6, a7, a8] (.ref x :: st) bc bs hp Q := Go_next (i := .aload_n 2) rfl rfl
set_option maxRecDepth 100000 in
theorem sL_law_1938 {x : Nat} : Go kL_law 1938 [(.ref x), a1, a2, a3, a4, a5, a6, a7, a8] st bc bs hp Q ↔ Go kL_law 1939 [(.ref x), a1, a2, a3, a4, a5, a6, a7, a8] (.ref x :: st) bc bs hp Q := Go_next (i := .aload_n 0) rfl rfl
set_option maxRecDepth 100000 in
theorem sL_law_1939 {x : Int32} : Go kL_law 1939 [a0, a1, a2, a3, a4, (.int x), a6, a7, a8] st bc bs hp Q ↔ Go kL_law 1941 [a0, a1, a2, a3, a4, (.int x), a6, a7, a8] (.int x :: st) bc bs hp Q := Go_next (i := .iload 5) rfl rfl
set_option maxRecDepth 100000 in
theorem sL_law_1941 : Go kL_law 1941 [a0, a1, a2, a3, a4, a5, a6, a7, a8] st bc bs hp Q ↔ Go kL_law 1942 [a0, a1, a2, a3, a4, a5, a6, a7, a8] (.int 1 :: st) bc bs hp Q := Go_next (i := .iconst 1) rfl rfl
set_option maxRecDepth 100000 in
theorem sL_law_1942 {x y : Int32} : Go kL_law 1942 [a0, a1, a2, a3, a4, a5, a6, a7, a8] (.int y :: .int x :: st) bc bs hp Q ↔ Go kL_law 1943 [a0, a1, a2, a3, a4, a5, a6, a7, a8] (.int (x + y) :: st) bc bs hp Q := Go_next (i := .iadd) rfl rfl
set_option maxRecDepth 100000 in
theorem sL_law_1943 {x : Nat} {i : Int32} : Go kL_law 1943 [a0, a1, a2, a3, a4, a5, a6, a7, a8] (.int i :: .ref x :: st) bc bs hp Q ↔ RdA hp x 0 i (fun v => Go kL_law 1944 [a0, a1, a2, a3, a4, a5, a6, a7, a8] (.int v :: st) bc bs hp Q) := Go_iald rfl
set_option maxRecDepth 100000 in
theorem sL_law_1944 {x : Nat} : Go kL_law 1944 [(.ref x), a1, a2, a3, a4, a5, a6, a7, a8] st bc bs hp Q ↔ Go kL_law 1945 [(.ref x), a1, a2, a3, a4, a5, a6, a7, a8] (.ref x :: st) bc bs hp Q := Go_next (i := .aload_n 0) rfl rfl
set_option maxRecDepth 100000 in
theorem sL_law_1945 {x : Int32} : Go kL_law 1945 [a0, a1, a2, a3, a4, (.int x), a6, a7, a8] st bc bs hp Q ↔ Go kL_law 1947 [a0, a1, a2, a3, a4, (.int x), a6, a7, a8] (.int x :: st) bc bs hp Q := Go_next (i := .iload 5) rfl rfl
set_option maxRecDepth 100000 in
theorem sL_law_1947 : Go kL_law 1947 [a0, a1, a2, a3, a4, a5, a6, a7, a8] st bc bs hp Q ↔ Go kL_law 1948 [a0, a1, a2, a3, a4, a5, a6, a7, a8] (.int 2 :: st) bc bs hp Q := Go_next (i := .iconst 2) rfl rfl
set_option maxRecDepth 100000 in
theorem sL_law_1948 {x y : Int32} : Go kL_law 1948 [a0, a1, a2, a3, a4, a5, a6, a7, a8] (.int y :: .int x :: st) bc bs hp Q ↔ Go kL_law 1949 [a0, a1, a2, a3, a4, a5, a6, a7, a8] (.int (x + y) :: st) bc bs hp Q := Go_next (i := .iadd) rfl rfl
set_option maxRecDepth 100000 in
theorem sL_law_1949 {x : Nat} {i : Int32} : Go kL_law 1949 [a0, a1, a2, a3, a4, a5, a6, a7, a8] (.int i :: .ref x :: st) bc bs hp Q ↔ RdA hp x 0 i (fun v => Go kL_law 1950 [a0, a1, a2, a3, a4, a5, a6, a7, a8] (.int v :: st) bc bs hp Q) := Go_iald rfl
set_option maxRecDepth 100000 in
theorem sL_law_1950 {x : Nat} : Go kL_law 1950 [(.ref x), a1, a2, a3, a4, a5, a6, a7, a8] st bc bs hp Q ↔ Go kL_law 1951 [(.ref x), a1, a2, a3, a4, a5, a6, a7, a8] (.ref x :: st) bc bs hp Q := Go_next (i := .aload_n 0) rfl rfl
set_option maxRecDepth 100000 in
theorem sL_law_1951 {x : Int32} : Go kL_law 1951 [a0, a1, a2, a3, a4, (.int x), a6, a7, a8] st bc bs hp Q ↔ Go kL_law 1953 [a0, a1, a2, a3, a4, (.int x), a6, a7, a8] (.int x :: st) bc bs hp Q := Go_next (i := .iload 5) rfl rfl
set_option maxRecDepth 100000 in
theorem sL_law_1953 : Go kL_law 1953 [a0, a1, a2, a3, a4, a5, a6, a7, a8] st bc bs hp Q ↔ Go kL_law 1954 [a0, a1, a2, a3, a4, a5, a6, a7, a8] (.int 3 :: st) bc bs hp Q := Go_next (i := .iconst 3) rfl rfl
set_option maxRecDepth 100000 in
theorem sL_law_1954 {x y : Int32} : Go kL_law 1954 [a0, a1, a2, a3, a4, a5, a6, a7, a8] (.int y :: .int x :: st) bc bs hp Q ↔ Go kL_law 1955 [a0, a1, a2, a3, a4, a5, a6, a7, a8] (.int (x + y) :: st) bc bs hp Q := Go_next (i := .iadd) rfl rfl
set_option maxRecDepth 100000 in
theorem sL_law_1955 {x : Nat} {i : Int32} : Go kL_law 1955 [a0, a1, a2, a3, a4, a5, a6, a7, a8] (.int i :: .ref x :: st) bc bs hp Q ↔ RdA hp x 0 i (fun v => Go kL_law 1956 [a0, a1, a2, a3, a4, a5, a6, a7, a8] (.int v :: st) bc bs hp Q) := Go_iald rfl
set_option maxRecDepth 100000 in
theorem sL_law_1956 {x : Int32} : Go kL_law 1956 [a0, a1, a2, a3, a4, a5, a6, a7, a8] (.int x :: st) bc bs hp Q ↔ Go kL_law 1957 [a0, a1, a2, a3, a4, a5, a6, a7, a8] (.int (x.toUInt32 % 65536).toInt32 :: st) bc bs hp Q := Go_next (i := .i2c) rfl rfl
set_option maxRecDepth 100000 in
theorem sL_law_1957 {x : Nat} : Go kL_law 1957 [(.ref x), a1, a2, a3, a4, a5, a6, a7, a8] st bc bs hp Q ↔ Go kL_law 1958 [(.ref x), a1, a2, a3, a4, a5, a6, a7, a8] (.ref x :: st) bc bs hp Q := Go_next (i := .aload_n 0) rfl rfl
set_option maxRecDepth 100000 in
theorem sL_law_1958 {x : Int32} : Go kL_law 1958 [a0, a1, a2, a3, a4, (.int x), a6, a7, a8] st bc bs hp Q ↔ Go kL_law 1960 [a0, a1, a2, a3, a4, (.int x), a6, a7, a8] (.int x :: st) bc bs hp Q := Go_next (i := .iload 5) rfl rfl
set_option maxRecDepth 100000 in
theorem sL_law_1960 : Go kL_law 1960 [a0, a1, a2, a3, a4, a5, a6, a7, a8] st bc bs hp Q ↔ Go kL_law 1961 [a0, a1, a2, a3, a4, a5, a6, a7, a8] (.int 4 :: st) bc bs hp Q := Go_next (i := .iconst 4) rfl rfl
set_option maxRecDepth 100000 in
theorem sL_law_1961 {x y : Int32} : Go kL_law 1961 [a0, a1, a2, a3, a4, a5, a6, a7, a8] (.int y :: .int x :: st) bc bs hp Q ↔ Go kL_law 1962 [a0, a1, a2, a3, a4, a5, a6, a7, a8] (.int (x + y) :: st) bc bs hp Q := Go_next (i := .iadd) rfl rfl
set_option maxRecDepth 100000 in
theorem sL_law_1962 {x : Nat} {i : Int32} : Go kL_law 1962 [a0, a1, a2, a3, a4, a5, a6, a7, a8] (.int i :: .ref x :: st) bc bs hp Q ↔ RdA hp x 0 i (fun v => Go kL_law 1963 [a0, a1, a2, a3, a4, a5, a6, a7, a8] (.int v :: st) bc bs hp Q) := Go_iald rfl
set_option maxRecDepth 100000 in
theorem sL_law_1963 {x : Nat} : Go kL_law 1963 [(.ref x), a1, a2, a3, a4, a5, a6, a7, a8] st bc bs hp Q ↔ Go kL_law 1964 [(.ref x), a1, a2, a3, a4, a5, a6, a7, a8] (.ref x :: st) bc bs hp Q := Go_next (i := .aload_n 0) rfl rfl
set_option maxRecDepth 100000 in
theorem sL_law_1964 {x : Int32} : Go kL_law 1964 [a0, a1, a2, a3, a4, (.int x), a6, a7, a8] st bc bs hp Q ↔ Go kL_law 1966 [a0, a1, a2, a3, a4, (.int x), a6, a7, a8] (.int x :: st) bc bs hp Q := Go_next (i := .iload 5) rfl rfl
set_option maxRecDepth 100000 in
theorem sL_law_1966 : Go kL_law 1966 [a0, a1, a2, a3, a4, a5, a6, a7, a8] st bc bs hp Q ↔ Go kL_law 1967 [a0, a1, a2, a3, a4, a5, a6, a7, a8] (.int 5 :: st) bc bs hp Q := Go_next (i := .iconst 5) rfl rfl
set_option maxRecDepth 100000 in
theorem sL_law_1967 {x y : Int32} : Go kL_law 1967 [a0, a1, a2, a3, a4, a5, a6, a7, a8] (.int y :: .int x :: st) bc bs hp Q ↔ Go kL_law 1968 [a0, a1, a2, a3, a4, a5, a6, a7, a8] (.int (x + y) :: st) bc bs hp Q := Go_next (i := .iadd) rfl rfl
set_option maxRecDepth 100000 in
theorem sL_law_1968 {x : Nat} {i : Int32} : Go kL_law 1968 [a0, a1, a2, a3, a4, a5, a6, a7, a8] (.int i :: .ref x :: st) bc bs hp Q ↔ RdA hp x 0 i (fun v => Go kL_law 1969 [a0, a1, a2, a3, a4, a5, a6, a7, a8] (.int v :: st) bc bs hp Q) := Go_iald rfl
set_option maxRecDepth 100000 in
theorem sL_law_1969 {x : Nat} : Go kL_law 1969 [(.ref x), a1, a2, a3, a4, a5, a6, a7, a8] st bc bs hp Q ↔ Go kL_law 1970 [(.ref x), a1, a2, a3, a4, a5, a6, a7, a8] (.ref x :: st) bc bs hp Q := Go_next (i := .aload_n 0) rfl rfl
set_option maxRecDepth 100000 in
theorem sL_law_1970 {x : Int32} : Go kL_law 1970 [a0, a1, a2, a3, a4, (.int x), a6, a7, a8] st bc bs hp Q ↔ Go kL_law 1972 [a0, a1, a2, a3, a4, (.int x), a6, a7, a8] (.int x :: st) bc bs hp Q := Go_next (i := .iload 5) rfl rfl
set_option maxRecDepth 100000 in
theorem sL_law_1972 : Go kL_law 1972 [a0, a1, a2, a3, a4, a5, a6, a7, a8] st bc bs hp Q ↔ Go kL_law 1974 [a0, a1, a2, a3, a4, a5, a6, a7, a8] (.int 6 :: st) bc bs hp Q := Go_next (i := .bipush 6) rfl rfl
set_option maxRecDepth 100000 in
theorem sL_law_1974 {x y : Int32} : Go kL_law 1974 [a0, a1, a2, a3, a4, a5, a6, a7, a8] (.int y :: .int x :: st) bc bs hp Q ↔ Go kL_law 1975 [a0, a1, a2, a3, a4, a5, a6, a7, a8] (.int (x + y) :: st) bc bs hp Q := Go_next (i := .iadd) rfl rfl
set_option maxRecDepth 100000 in
theorem sL_law_1975 {x : Nat} {i : Int32} : Go kL_law 1975 [a0, a1, a2, a3, a4, a5, a6, a7, a8] (.int i :: .ref x :: st) bc bs hp Q ↔ RdA hp x 0 i (fun v => Go kL_law 1976 [a0, a1, a2, a3, a4, a5, a6, a7, a8] (.int v :: st) bc bs hp Q) := Go_iald rfl
set_option maxRecDepth 100000 in
theorem sL_law_1976 {p0 : Int32} {p1 : Int32} {p2 : Int32} {p3 : Int32} {p4 : Int32} {p5 : Int32} {x : Nat} : Go kL_law 1976 [a0, a1, a2, a3, a4, a5, a6, a7, a8] (.int p5 :: .int p4 :: .int p3 :: .int p2 :: .int p1 :: .int p0 :: .ref x :: st) bc bs hp Q ↔ Rcv hp x 8 ∧ nsum st ≤ 8 ∧ Call kX8_addEffect [.ref x, .int p0, .int p1, .int p2, .int p3, .int p4, .int p5] hp (Aft kL_law 1979 [a0, a1, a2, a3, a4, a5, a6, a7, a8] st bc bs Q) := Go_invV0 rfl rfl rfl rfl rfl rfl rfl rfl rfl rfl
set_option maxRecDepth 100000 in
theorem sL_law_1979 {x : Int32} (hj : a6.category = 1) : Go kL_law 1979 [a0, a1, a2, a3, a4, a5, a6, a7, a8] (.int x :: st) bc bs hp Q ↔ Go kL_law 1981 [a0, a1, a2, a3, a4, a5, a6, (.int x), a8] st bc bs hp Q := Go_sto (i := .istore 7) (j := 7) (v := .int x) rfl rfl (Nat.le_of_ble_eq_true rfl) (decide_eq_true hj) rfl
set_option maxRecDepth 100000 in
theorem sL_law_1981 {x : Nat} : Go kL_law 1981 [a0, a1, (.ref x), a3, a4, a5, a6, a7, a8] st bc bs hp Q ↔ Go kL_law 1982 [a0, a1, (.ref x), a3, a4, a5, a6, a7, a8] (.ref x :: st) bc bs hp Q := Go_next (i := .aload_n 2) rfl rfl
set_option maxRecDepth 100000 in
theorem sL_law_1982 {x : Nat} : Go kL_law 1982 [a0, a1, a2, a3, a4, a5, a6, a7, a8] (.ref x :: st) bc bs hp Q ↔ Rcv hp x 8 ∧ nsum st ≤ 8 ∧ Call kX8_thrown [.ref x] hp (Aft kL_law 1985 [a0, a1, a2, a3, a4, a5, a6, a7, a8] st bc bs Q) := Go_invV0 rfl rfl rfl rfl rfl rfl rfl rfl rfl rfl
set_option maxRecDepth 100000 in
theorem sL_law_1985 {x : Int32} : Go kL_law 1985 [a0, a1, a2, a3, a4, a5, (.int x), a7, a8] st bc bs hp Q ↔ Go kL_law 1987 [a0, a1, a2, a3, a4, a5, (.int x), a7, a8] (.int x :: st) bc bs hp Q := Go_next (i := .iload 6) rfl rfl
set_option maxRecDepth 100000 in
theorem sL_law_1987 {x y : Int32} : Go kL_law 1987 [a0, a1, a2, a3, a4, a5, a6, a7, a8] (.int y :: .int x :: st) bc bs hp Q ↔ (x = y → Go kL_law 1992 [a0, a1, a2, a3, a4, a5, a6, a7, a8] st bc bs hp Q) ∧ (¬ x = y → Go kL_law 1990 [a0, a1, a2, a3, a4, a5, a6, a7, a8] st bc bs hp Q) := Go_ift (c := x = y) (i := .if_icmp .eq 5) rfl rfl
set_option maxRecDepth 100000 in
theorem sL_law_1990 : Go kL_law 1990 [a0, a1, a2, a3, a4, a5, a6, a7, a8] st bc bs hp Q ↔ Go kL_law 1991 [a0, a1, a2, a3, a4, a5, a6, a7, a8] (.int 0 :: st) bc bs hp Q := Go_next (i := .iconst 0) rfl rfl
set_option maxRecDepth 100000 in
theorem sL_law_1991 {x : Int32} : Go kL_law 1991 [a0, a1, a2, a3, a4, a5, a6, a7, a8] [.int x] bc bs hp Q ↔ outI kL_law x = true ∧ Q (.inl (some (.int x))) hp := Go_retIf (i := .ireturn) rfl rfl
set_option maxRecDepth 100000 in
theorem sL_law_1992 {x : Int32} : Go kL_law 1992 [a0, a1, a2, a3, a4, a5, (.int x), a7, a8] st bc bs hp Q ↔ Go kL_law 1994 [a0, a1, a2, a3, a4, a5, (.int x), a7, a8] (.int x :: st) bc bs hp Q := Go_next (i := .iload 6) rfl rfl
set_option maxRecDepth 100000 in
theorem sL_law_1994 {x : Int32} : Go kL_law 1994 [a0, a1, a2, a3, a4, a5, a6, a7, a8] (.int x :: st) bc bs hp Q ↔ (¬ x = 0 → Go kL_law 2009 [a0, a1, a2, a3, a4, a5, a6, a7, a8] st bc bs hp Q) ∧ (x = 0 → Go kL_law 1997 [a0, a1, a2, a3, a4, a5, a6, a7, a8] st bc bs hp Q) := Go_ifn (c := x = 0) (i := .ifCond .ne 15) rfl rfl
set_option maxRecDepth 100000 in
theorem sL_law_1997 {x : Nat} : Go kL_law 1997 [a0, a1, a2, (.ref x), a4, a5, a6, a7, a8] st bc bs hp Q ↔ Go kL_law 1998 [a0, a1, a2, (.ref x), a4, a5, a6, a7, a8] (.ref x :: st) bc bs hp Q := Go_next (i := .aload_n 3) rfl rfl
set_option maxRecDepth 100000 in
theorem sL_law_1998 : Go kL_law 1998 [a0, a1, a2, a3, a4, a5, a6, a7, a8] st bc bs hp Q ↔ Go kL_law 1999 [a0, a1, a2, a3, a4, a5, a6, a7, a8] (.int 0 :: st) bc bs hp Q := Go_next (i := .iconst 0) rfl rfl
set_option maxRecDepth 100000 in
theorem sL_law_1999 {x : Nat} {i : Int32} : Go kL_law 1999 [a0, a1, a2, a3, a4, a5, a6, a7, a8] (.int i :: .ref x :: st) bc bs hp Q ↔ RdL hp x i (fun v => Go kL_law 2000 [a0, a1, a2, a3, a4, a5, a6, a7, a8] (.long v :: st) bc bs hp Q) := Go_lald rfl
set_option maxRecDepth 100000 in
theorem sL_law_2000 {x : Int32} : Go kL_law 2000 [a0, a1, a2, a3, a4, a5, a6, (.int x), a8] st bc bs hp Q ↔ Go kL_law 2002 [a0, a1, a2, a3, a4, a5, a6, (.int x), a8] (.int x :: st) bc bs hp Q := Go_next (i := .iload 7) rfl rfl
set_option maxRecDepth 100000 in
theorem sL_law_2002 {x : Int32} : Go kL_law 2002 [a0, a1, a2, a3, a4, a5, a6, a7, a8] (.int x :: st) bc bs hp Q ↔ Go kL_law 2003 [a0, a1, a2, a3, a4, a5, a6, a7, a8] (.long x.toInt64 :: st) bc bs hp Q := Go_next (i := .i2l) rfl rfl
set_option maxRecDepth 100000 in
theorem sL_law_2003 {x y : Int64} : Go kL_law 2003 [a0, a1, a2, a3, a4, a5, a6, a7, a8] (.long y :: .long x :: st) bc bs hp Q ↔ Go kL_law 2004 [a0, a1, a2, a3, a4, a5, a6, a7, a8] (.int (lg_cmp x y) :: st) bc bs hp Q := Go_next (i := .lcmp) rfl rfl
set_option maxRecDepth 100000 in
theorem sL_law_2004 {x : Int32} : Go kL_law 2004 [a0, a1, a2, a3, a4, a5, a6, a7, a8] (.int x :: st) bc bs hp Q ↔ (x = 0 → Go kL_law 2009 [a0, a1, a2, a3, a4, a5, a6, a7, a8] st bc bs hp Q) ∧ (¬ x = 0 → Go kL_law 2007 [a0, a1, a2, a3, a4, a5, a6, a7, a8] st bc bs hp Q) := Go_ift (c := x = 0) (i := .ifCond .eq 5) rfl rfl
set_option maxRecDepth 100000 in
theorem sL_law_2007 : Go kL_law 2007 [a0, a1, a2, a3, a4, a5, a6, a7, a8] st bc bs hp Q ↔ Go kL_law 2008 [a0, a1, a2, a3, a4, a5, a6, a7, a8] (.int 0 :: st) bc bs hp Q := Go_next (i := .iconst 0) rfl rfl
set_option maxRecDepth 100000 in
theorem sL_law_2008 {x : Int32} : Go kL_law 2008 [a0, a1, a2, a3, a4, a5, a6, a7, a8] [.int x] bc bs hp Q ↔ outI kL_law x = true ∧ Q (.inl (some (.int x))) hp := Go_retIf (i := .ireturn) rfl rfl
set_option maxRecDepth 100000 in
theorem sL_law_2009 : Go kL_law 2009 [a0, a1, a2, a3, a4, a5, a6, a7, a8] st bc bs hp Q ↔ Go kL_law 3086 [a0, a1, a2, a3, a4, a5, a6, a7, a8] st bc bs hp Q := Go_next (i := .goto 1077) rfl rfl
set_option maxRecDepth 100000 in
theorem sL_law_2012 {x : Nat} : Go kL_law 2012 [a0, (.ref x), a2, a3, a4, a5, a6, a7, a8] st bc bs hp Q ↔ Go kL_law 2013 [a0, (.ref x), a2, a3, a4, a5, a6, a7, a8] (.ref x :: st) bc bs hp Q := Go_next (i := .aload_n 1) rfl rfl
set_option maxRecDepth 100000 in
theorem sL_law_2013 {x : Nat} : Go kL_law 2013 [(.ref x), a1, a2, a3, a4, a5, a6, a7, a8] st bc bs hp Q ↔ Go kL_law 2014 [(.ref x), a1, a2, a3, a4, a5, a6, a7, a8] (.ref x :: st) bc bs hp Q := Go_next (i := .aload_n 0) rfl rfl
set_option maxRecDepth 100000 in
theorem sL_law_2014 {x : Int32} : Go kL_law 2014 [a0, a1, a2, a3, a4, (.int x), a6, a7, a8] st bc bs hp Q ↔ Go kL_law 2016 [a0, a1, a2, a3, a4, (.int x), a6, a7, a8] (.int x :: st) bc bs hp Q := Go_next (i := .iload 5) rfl rfl
set_option maxRecDepth 100000 in
theorem sL_law_2016 : Go kL_law 2016 [a0, a1, a2, a3, a4, a5, a6, a7, a8] st bc bs hp Q ↔ Go kL_law 2017 [a0, a1, a2, a3, a4, a5, a6, a7, a8] (.int 1 :: st) bc bs hp Q := Go_next (i := .iconst 1) rfl rfl
set_option maxRecDepth 100000 in
theorem sL_law_2017 {x y : Int32} : Go kL_law 2017 [a0, a1, a2, a3, a4, a5, a6, a7, a8] (.int y :: .int x :: st) bc bs hp Q ↔ Go kL_law 2018 [a0, a1, a2, a3, a4, a5, a6, a7, a8] (.int (x + y) :: st) bc bs hp Q := Go_next (i := .iadd) rfl rfl
set_option maxRecDepth 100000 in
theorem sL_law_2018 {x : Nat} {i : Int32} : Go kL_law 2018 [a0, a1, a2, a3, a4, a5, a6, a7, a8] (.int i :: .ref x :: st) bc bs hp Q ↔ RdA hp x 0 i (fun v => Go kL_law 2019 [a0, a1, a2, a3, a4, a5, a6, a7, a8] (.int v :: st) bc bs hp Q) := Go_iald rfl
set_option maxRecDepth 100000 in
theorem sL_law_2019 {x : Nat} : Go kL_law 2019 [a0, a1, a2, (.ref x), a4, a5, a6, a7, a8] st bc bs hp Q ↔ Go kL_law 2020 [a0, a1, a2, (.ref x), a4, a5, a6, a7, a8] (.ref x :: st) bc bs hp Q := Go_next (i := .aload_n 3) rfl rfl
set_option maxRecDepth 100000 in
theorem sL_law_2020 {p0 : Nat} {p1 : Int32} {p2 : Nat} : Go kL_law 2020 [a0, a1, a2, a3, a4, a5, a6, a7, a8] (.ref p2 :: .int p1 :: .ref p0 :: st) bc bs hp Q ↔ (2 ≤ bc ∧ 12 ≤ bs ∧ nsum st ≤ 8) ∧ Call kL_start [.ref p0, .int p1, .ref p2] hp (Aft kL_law 2023 [a0, a1, a2, a3, a4, a5, a6, a7, a8] st (bc - 2) (bs - 12) Q) := Go_inv (i := .invokestatic 246) rfl rfl rfl rfl rfl rfl
set_option maxRecDepth 100000 in
theorem sL_law_2023 {x : Int32} (hj : a5.category = 1) : Go kL_law 2023 [a0, a1, a2, a3, a4, a5, a6, a7, a8] (.int x :: st) bc bs hp Q ↔ Go kL_law 2025 [a0, a1, a2, a3, a4, a5, (.int x), a7, a8] st bc bs hp Q := Go_sto (i := .istore 6) (j := 6) (v := .int x) rfl rfl (Nat.le_of_ble_eq_true rfl) (decide_eq_true hj) rfl
set_option maxRecDepth 100000 in
theorem sL_law_2025 {x : Nat} : Go kL_law 2025 [a0, a1, (.ref x), a3, a4, a5, a6, a7, a8] st bc bs hp Q ↔ Go kL_law 2026 [a0, a1, (.ref x), a3, a4, a5, a6, a7, a8] (.ref x :: st) bc bs hp Q := Go_next (i := .aload_n 2) rfl rfl
set_option maxRecDepth 100000 in
theorem sL_law_2026 {x : Nat} : Go kL_law 2026 [(.ref x), a1, a2, a3, a4, a5, a6, a7, a8] st bc bs hp Q ↔ Go kL_law 2027 [(.ref x), a1, a2, a3, a4, a5, a6, a7, a8] (.ref x :: st) bc bs hp Q := Go_next (i := .aload_n 0) rfl rfl
set_option maxRecDepth 100000 in
theorem sL_law_2027 {x : Int32} : Go kL_law 2027 [a0, a1, a2, a3, a4, (.int x), a6, a7, a8] st bc bs hp Q ↔ Go kL_law 2029 [a0, a1, a2, a3, a4, (.int x), a6, a7, a8] (.int x :: st) bc bs hp Q := Go_next (i := .iload 5) rfl rfl
set_option maxRecDepth 100000 in
theorem sL_law_2029 : Go kL_law 2029 [a0, a1, a2, a3, a4, a5, a6, a7, a8] st bc bs hp Q ↔ Go kL_law 2030 [a0, a1, a2, a3, a4, a5, a6, a7, a8] (.int 1 :: st) bc bs hp Q := Go_next (i := .iconst 1) rfl rfl
set_option maxRecDepth 100000 in
theorem sL_law_2030 {x y : Int32} : Go kL_law 2030 [a0, a1, a2, a3, a4, a5, a6, a7, a8] (.int y :: .int x :: st) bc bs hp Q ↔ Go kL_law 2031 [a0, a1, a2, a3, a4, a5, a6, a7, a8] (.int (x + y) :: st) bc bs hp Q := Go_next (i := .iadd) rfl rfl
set_option maxRecDepth 100000 in
theorem sL_law_2031 {x : Nat} {i : Int32} : Go kL_law 2031 [a0, a1, a2, a3, a4, a5, a6, a7, a8] (.int i :: .ref x :: st) bc bs hp Q ↔ RdA hp x 0 i (fun v => Go kL_law 2032 [a0, a1, a2, a3, a4, a5, a6, a7, a8] (.int v :: st) bc bs hp Q) := Go_iald rfl
set_option maxRecDepth 100000 in
theorem sL_law_2032 {p0 : Int32} {x : Nat} : Go kL_law 2032 [a0, a1, a2, a3, a4, a5, a6, a7, a8] (.int p0 :: .ref x :: st) bc bs hp Q ↔ Rcv hp x 8 ∧ nsum st ≤ 8 ∧ Call kX8_start [.ref x, .int p0] hp (Aft kL_law 2035 [a0, a1, a2, a3, a4, a5, a6, a7, a8] st bc bs Q) := Go_invV0 rfl rfl rfl rfl rfl rfl rfl rfl rfl rfl
set_option maxRecDepth 100000 in
theorem sL_law_2035 {x : Int32} (hj : a6.category = 1) : Go kL_law 2035 [a0, a1, a2, a3, a4, a5, a6, a7, a8] (.int x :: st) bc bs hp Q ↔ Go kL_law 2037 [a0, a1, a2, a3, a4, a5, a6, (.int x), a8] st bc bs hp Q := Go_sto (i := .istore 7) (j := 7) (v := .int x) rfl rfl (Nat.le_of_ble_eq_true rfl) (decide_eq_true hj) rfl
set_option maxRecDepth 100000 in
theorem sL_law_2037 {x : Nat} : Go kL_law 2037 [a0, a1, (.ref x), a3, a4, a5, a6, a7, a8] st bc bs hp Q ↔ Go kL_law 2038 [a0, a1, (.ref x), a3, a4, a5, a6, a7, a8] (.ref x :: st) bc bs hp Q := Go_next (i := .aload_n 2) rfl rfl
set_option maxRecDepth 100000 in
theorem sL_law_2038 {x : Nat} : Go kL_law 2038 [a0, a1, a2, a3, a4, a5, a6, a7, a8] (.ref x :: st) bc bs hp Q ↔ Rcv hp x 8 ∧ nsum st ≤ 8 ∧ Call kX8_thrown [.ref x] hp (Aft kL_law 2041 [a0, a1, a2, a3, a4, a5, a6, a7, a8] st bc bs Q) := Go_invV0 rfl rfl rfl rfl rfl rfl rfl rfl rfl rfl
set_option maxRecDepth 100000 in
theorem sL_law_2041 {x : Int32} : Go kL_law 2041 [a0, a1, a2, a3, a4, a5, (.int x), a7, a8] st bc bs hp Q ↔ Go kL_law 2043 [a0, a1, a2, a3, a4, a5, (.int x), a7, a8] (.int x :: st) bc bs hp Q := Go_next (i := .iload 6) rfl rfl
set_option maxRecDepth 100000 in
theorem sL_law_2043 {x y : Int32} : Go kL_law 2043 [a0, a1, a2, a3, a4, a5, a6, a7, a8] (.int y :: .int x :: st) bc bs hp Q ↔ (x = y → Go kL_law 2048 [a0, a1, a2, a3, a4, a5, a6, a7, a8] st bc bs hp Q) ∧ (¬ x = y → Go kL_law 2046 [a0, a1, a2, a3, a4, a5, a6, a7, a8] st bc bs hp Q) := Go_ift (c := x = y) (i := .if_icmp .eq 5) rfl rfl
set_option maxRecDepth 100000 in
theorem sL_law_2046 : Go kL_law 2046 [a0, a1, a2, a3, a4, a5, a6, a7, a8] st bc bs hp Q ↔ Go kL_law 2047 [a0, a1, a2, a3, a4, a5, a6, a7, a8] (.int 0 :: st) bc bs hp Q := Go_next (i := .iconst 0) rfl rfl
set_option maxRecDepth 100000 in
theorem sL_law_2047 {x : Int32} : Go kL_law 2047 [a0, a1, a2, a3, a4, a5, a6, a7, a8] [.int x] bc bs hp Q ↔ outI kL_law x = true ∧ Q (.inl (some (.int x))) hp := Go_retIf (i := .ireturn) rfl rfl
set_option maxRecDepth 100000 in
theorem sL_law_2048 {x : Int32} : Go kL_law 2048 [a0, a1, a2, a3, a4, a5, (.int x), a7, a8] st bc bs hp Q ↔ Go kL_law 2050 [a0, a1, a2, a3, a4, a5, (.int x), a7, a8] (.int x :: st) bc bs hp Q := Go_next (i := .iload 6) rfl rfl
set_option maxRecDepth 100000 in
theorem sL_law_2050 {x : Int32} : Go kL_law 2050 [a0, a1, a2, a3, a4, a5, a6, a7, a8] (.int x :: st) bc bs hp Q ↔ (¬ x = 0 → Go kL_law 2065 [a0, a1, a2, a3, a4, a5, a6, a7, a8] st bc bs hp Q) ∧ (x = 0 → Go kL_law 2053 [a0, a1, a2, a3, a4, a5, a6, a7, a8] st bc bs hp Q) := Go_ifn (c := x = 0) (i := .ifCond .ne 15) rfl rfl
set_option maxRecDepth 100000 in
theorem sL_law_2053 {x : Nat} : Go kL_law 2053 [a0, a1, a2, (.ref x), a4, a5, a6, a7, a8] st bc bs hp Q ↔ Go kL_law 2054 [a0, a1, a2, (.ref x), a4, a5, a6, a7, a8] (.ref x :: st) bc bs hp Q := Go_next (i := .aload_n 3) rfl rfl
set_option maxRecDepth 100000 in
theorem sL_law_2054 : Go kL_law 2054 [a0, a1, a2, a3, a4, a5, a6, a7, a8] st bc bs hp Q ↔ Go kL_law 2055 [a0, a1, a2, a3, a4, a5, a6, a7, a8] (.int 0 :: st) bc bs hp Q := Go_next (i := .iconst 0) rfl rfl
set_option maxRecDepth 100000 in
theorem sL_law_2055 {x : Nat} {i : Int32} : Go kL_law 2055 [a0, a1, a2, a3, a4, a5, a6, a7, a8] (.int i :: .ref x :: st) bc bs hp Q ↔ RdL hp x i (fun v => Go kL_law 2056 [a0, a1, a2, a3, a4, a5, a6, a7, a8] (.long v :: st) bc bs hp Q) := Go_lald rfl
set_option maxRecDepth 100000 in
theorem sL_law_2056 {x : Int32} : Go kL_law 2056 [a0, a1, a2, a3, a4, a5, a6, (.int x), a8] st bc bs hp Q ↔ Go kL_law 2058 [a0, a1, a2, a3, a4, a5, a6, (.int x), a8] (.int x :: st) bc bs hp Q := Go_next (i := .iload 7) rfl rfl
set_option maxRecDepth 100000 in
theorem sL_law_2058 {x : Int32} : Go kL_law 2058 [a0, a1, a2, a3, a4, a5, a6, a7, a8] (.int x :: st) bc bs hp Q ↔ Go kL_law 2059 [a0, a1, a2, a3, a4, a5, a6, a7, a8] (.long x.toInt64 :: st) bc bs hp Q := Go_next (i := .i2l) rfl rfl
set_option maxRecDepth 100000 in
theorem sL_law_2059 {x y : Int64} : Go kL_law 2059 [a0, a1, a2, a3, a4, a5, a6, a7, a8] (.long y :: .long x :: st) bc bs hp Q ↔ Go kL_law 2060 [a0, a1, a2, a3, a4, a5, a6, a7, a8] (.int (lg_cmp x y) :: st) bc bs hp Q := Go_next (i := .lcmp) rfl rfl
set_option maxRecDepth 100000 in
theorem sL_law_2060 {x : Int32} : Go kL_law 2060 [a0, a1, a2, a3, a4, a5, a6, a7, a8] (.int x :: st) bc bs hp Q ↔ (x = 0 → Go kL_law 2065 [a0, a1, a2, a3, a4, a5, a6, a7, a8] st bc bs hp Q) ∧ (¬ x = 0 → Go kL_law 2063 [a0, a1, a2, a3, a4, a5, a6, a7, a8] st bc bs hp Q) := Go_ift (c := x = 0) (i := .ifCond .eq 5) rfl rfl
set_option maxRecDepth 100000 in
theorem sL_law_2063 : Go kL_law 2063 [a0, a1, a2, a3, a4, a5, a6, a7, a8] st bc bs hp Q ↔ Go kL_law 2064 [a0, a1, a2, a3, a4, a5, a6, a7, a8] (.int 0 :: st) bc bs hp Q := Go_next (i := .iconst 0) rfl rfl
set_option maxRecDepth 100000 in
theorem sL_law_2064 {x : Int32} : Go kL_law 2064 [a0, a1, a2, a3, a4, a5, a6, a7, a8] [.int x] bc bs hp Q ↔ outI kL_law x = true ∧ Q (.inl (some (.int x))) hp := Go_retIf (i := .ireturn) rfl rfl
set_option maxRecDepth 100000 in
theorem sL_law_2065 : Go kL_law 2065 [a0, a1, a2, a3, a4, a5, a6, a7, a8] st bc bs hp Q ↔ Go kL_law 3086 [a0, a1, a2, a3, a4, a5, a6, a7, a8] st bc bs hp Q := Go_next (i := .goto 1021) rfl rfl
set_option maxRecDepth 100000 in
theorem sL_law_2068 {x : Nat} : Go kL_law 2068 [a0, (.ref x), a2, a3, a4, a5, a6, a7, a8] st bc bs hp Q ↔ Go kL_law 2069 [a0, (.ref x), a2, a3, a4, a5, a6, a7, a8] (.ref x :: st) bc bs hp Q := Go_next (i := .aload_n 1) rfl rfl
set_option maxRecDepth 100000 in
theorem sL_law_2069 {x : Nat} : Go kL_law 2069 [(.ref x), a1, a2, a3, a4, a5, a6, a7, a8] st bc bs hp Q ↔ Go kL_law 2070 [(.ref x), a1, a2, a3, a4, a5, a6, a7, a8] (.ref x :: st) bc bs hp Q := Go_next (i := .aload_n 0) rfl rfl
set_option maxRecDepth 100000 in
theorem sL_law_2070 {x : Int32} : Go kL_law 2070 [a0, a1, a2, a3, a4, (.int x), a6, a7, a8] st bc bs hp Q ↔ Go kL_law 2072 [a0, a1, a2, a3, a4, (.int x), a6, a7, a8] (.int x :: st) bc bs hp Q := Go_next (i := .iload 5) rfl rfl
set_option maxRecDepth 100000 in
theorem sL_law_2072 : Go kL_law 2072 [a0, a1, a2, a3, a4, a5, a6, a7, a8] st bc bs hp Q ↔ Go kL_law 2073 [a0, a1, a2, a3, a4, a5, a6, a7, a8] (.int 1 :: st) bc bs hp Q := Go_next (i := .iconst 1) rfl rfl
set_option maxRecDepth 100000 in
theorem sL_law_2073 {x y : Int32} : Go kL_law 2073 [a0, a1, a2, a3, a4, a5, a6, a7, a8] (.int y :: .int x :: st) bc bs hp Q ↔ Go kL_law 2074 [a0, a1, a2, a3, a4, a5, a6, a7, a8] (.int (x + y) :: st) bc bs hp Q := Go_next (i := .iadd) rfl rfl
set_option maxRecDepth 100000 in
theorem sL_law_2074 {x : Nat} {i : Int32} : Go kL_law 2074 [a0, a1, a2, a3, a4, a5, a6, a7, a8] (.int i :: .ref x :: st) bc bs hp Q ↔ RdA hp x 0 i (fun v => Go kL_law 2075 [a0, a1, a2, a3, a4, a5, a6, a7, a8] (.int v :: st) bc bs hp Q) := Go_iald rfl
set_option maxRecDepth 100000 in
theorem sL_law_2075 {x : Nat} : Go kL_law 2075 [a0, a1, a2, (.ref x), a4, a5, a6, a7, a8] st bc bs hp Q ↔ Go kL_law 2076 [a0, a1, a2, (.ref x), a4, a5, a6, a7, a8] (.ref x :: st) bc bs hp Q := Go_next (i := .aload_n 3) rfl rfl
set_option maxRecDepth 100000 in
theorem sL_law_2076 {p0 : Nat} {p1 : Int32} {p2 : Nat} : Go kL_law 2076 [a0, a1, a2, a3, a4, a5, a6, a7, a8] (.ref p2 :: .int p1 :: .ref p0 :: st) bc bs hp Q ↔ (2 ≤ bc ∧ 12 ≤ bs ∧ nsum st ≤ 8) ∧ Call kL_stop [.ref p0, .int p1, .ref p2] hp (Aft kL_law 2079 [a0, a1, a2, a3, a4, a5, a6, a7, a8] st (bc - 2) (bs - 12) Q) := Go_inv (i := .invokestatic 249) rfl rfl rfl rfl rfl rfl
set_option maxRecDepth 100000 in
theorem sL_law_2079 {x : Int32} (hj : a5.category = 1) : Go kL_law 2079 [a0, a1, a2, a3, a4, a5, a6, a7, a8] (.int x :: st) bc bs hp Q ↔ Go kL_law 2081 [a0, a1, a2, a3, a4, a5, (.int x), a7, a8] st bc bs hp Q := Go_sto (i := .istore 6) (j := 6) (v := .int x) rfl rfl (Nat.le_of_ble_eq_true rfl) (decide_eq_true hj) rfl
set_option maxRecDepth 100000 in
theorem sL_law_2081 {x : Nat} : Go kL_law 2081 [a0, a1, (.ref x), a3, a4, a5, a6, a7, a8] st bc bs hp Q ↔ Go kL_law 2082 [a0, a1, (.ref x), a3, a4, a5, a6, a7, a8] (.ref x :: st) bc bs hp Q := Go_next (i := .aload_n 2) rfl rfl
set_option maxRecDepth 100000 in
theorem sL_law_2082 {x : Nat} : Go kL_law 2082 [(.ref x), a1, a2, a3, a4, a5, a6, a7, a8] st bc bs hp Q ↔ Go kL_law 2083 [(.ref x), a1, a2, a3, a4, a5, a6, a7, a8] (.ref x :: st) bc bs hp Q := Go_next (i := .aload_n 0) rfl rfl
set_option maxRecDepth 100000 in
theorem sL_law_2083 {x : Int32} : Go kL_law 2083 [a0, a1, a2, a3, a4, (.int x), a6, a7, a8] st bc bs hp Q ↔ Go kL_law 2085 [a0, a1, a2, a3, a4, (.int x), a6, a7, a8] (.int x :: st) bc bs hp Q := Go_next (i := .iload 5) rfl rfl
set_option maxRecDepth 100000 in
theorem sL_law_2085 : Go kL_law 2085 [a0, a1, a2, a3, a4, a5, a6, a7, a8] st bc bs hp Q ↔ Go kL_law 2086 [a0, a1, a2, a3, a4, a5, a6, a7, a8] (.int 1 :: st) bc bs hp Q := Go_next (i := .iconst 1) rfl rfl
set_option maxRecDepth 100000 in
theorem sL_law_2086 {x y : Int32} : Go kL_law 2086 [a0, a1, a2, a3, a4, a5, a6, a7, a8] (.int y :: .int x :: st) bc bs hp Q ↔ Go kL_law 2087 [a0, a1, a2, a3, a4, a5, a6, a7, a8] (.int (x + y) :: st) bc bs hp Q := Go_next (i := .iadd) rfl rfl
set_option maxRecDepth 100000 in
theorem sL_law_2087 {x : Nat} {i : Int32} : Go kL_law 2087 [a0, a1, a2, a3, a4, a5, a6, a7, a8] (.int i :: .ref x :: st) bc bs hp Q ↔ RdA hp x 0 i (fun v => Go kL_law 2088 [a0, a1, a2, a3, a4, a5, a6, a7, a8] (.int v :: st) bc bs hp Q) := Go_iald rfl
set_option maxRecDepth 100000 in
theorem sL_law_2088 {p0 : Int32} {x : Nat} : Go kL_law 2088 [a0, a1, a2, a3, a4, a5, a6, a7, a8] (.int p0 :: .ref x :: st) bc bs hp Q ↔ Rcv hp x 8 ∧ nsum st ≤ 8 ∧ Call kX8_stop [.ref x, .int p0] hp (Aft kL_law 2091 [a0, a1, a2, a3, a4, a5, a6, a7, a8] st bc bs Q) := Go_invV0 rfl rfl rfl rfl rfl rfl rfl rfl rfl rfl
set_option maxRecDepth 100000 in
theorem sL_law_2091 {x : Int32} (hj : a6.category = 1) : Go kL_law 2091 [a0, a1, a2, a3, a4, a5, a6, a7, a8] (.int x :: st) bc bs hp Q ↔ Go kL_law 2093 [a0, a1, a2, a3, a4, a5, a6, (.int x), a8] st bc bs hp Q := Go_sto (i := .istore 7) (j := 7) (v := .int x) rfl rfl (Nat.le_of_ble_eq_true rfl) (decide_eq_true hj) rfl
set_option maxRecDepth 100000 in
theorem sL_law_2093 {x : Nat} : Go kL_law 2093 [a0, a1, (.ref x), a3, a4, a5, a6, a7, a8] st bc bs hp Q ↔ Go kL_law 2094 [a0, a1, (.ref x), a3, a4, a5, a6, a7, a8] (.ref x :: st) bc bs hp Q := Go_next (i := .aload_n 2) rfl rfl
set_option maxRecDepth 100000 in
theorem sL_law_2094 {x : Nat} : Go kL_law 2094 [a0, a1, a2, a3, a4, a5, a6, a7, a8] (.ref x :: st) bc bs hp Q ↔ Rcv hp x 8 ∧ nsum st ≤ 8 ∧ Call kX8_thrown [.ref x] hp (Aft kL_law 2097 [a0, a1, a2, a3, a4, a5, a6, a7, a8] st bc bs Q) := Go_invV0 rfl rfl rfl rfl rfl rfl rfl rfl rfl rfl
set_option maxRecDepth 100000 in
theorem sL_law_2097 {x : Int32} : Go kL_law 2097 [a0, a1, a2, a3, a4, a5, (.int x), a7, a8] st bc bs hp Q ↔ Go kL_law 2099 [a0, a1, a2, a3, a4, a5, (.int x), a7, a8] (.int x :: st) bc bs hp Q := Go_next (i := .iload 6) rfl rfl
set_option maxRecDepth 100000 in
theorem sL_law_2099 {x y : Int32} : Go kL_law 2099 [a0, a1, a2, a3, a4, a5, a6, a7, a8] (.int y :: .int x :: st) bc bs hp Q ↔ (x = y → Go kL_law 2104 [a0, a1, a2, a3, a4, a5, a6, a7, a8] st bc bs hp Q) ∧ (¬ x = y → Go kL_law 2102 [a0, a1, a2, a3, a4, a5, a6, a7, a8] st bc bs hp Q) := Go_ift (c := x = y) (i := .if_icmp .eq 5) rfl rfl
set_option maxRecDepth 100000 in
theorem sL_law_2102 : Go kL_law 2102 [a0, a1, a2, a3, a4, a5, a6, a7, a8] st bc bs hp Q ↔ Go kL_law 2103 [a0, a1, a2, a3, a4, a5, a6, a7, a8] (.int 0 :: st) bc bs hp Q := Go_next (i := .iconst 0) rfl rfl
set_option maxRecDepth 100000 in
theorem sL_law_2103 {x : Int32} : Go kL_law 2103 [a0, a1, a2, a3, a4, a5, a6, a7, a8] [.int x] bc bs hp Q ↔ outI kL_law x = true ∧ Q (.inl (some (.int x))) hp := Go_retIf (i := .ireturn) rfl rfl
set_option maxRecDepth 100000 in
theorem sL_law_2104 {x : Int32} : Go kL_law 2104 [a0, a1, a2, a3, a4, a5, (.int x), a7, a8] st bc bs hp Q ↔ Go kL_law 2106 [a0, a1, a2, a3, a4, a5, (.int x), a7, a8] (.int x :: st) bc bs hp Q := Go_next (i := .iload 6) rfl rfl
set_option maxRecDepth 100000 in
theorem sL_law_2106 {x : Int32} : Go kL_law 2106 [a0, a1, a2, a3, a4, a5, a6, a7, a8] (.int x :: st) bc bs hp Q ↔ (¬ x = 0 → Go kL_law 2121 [a0, a1, a2, a3, a4, a5, a6, a7, a8] st bc bs hp Q) ∧ (x = 0 → Go kL_law 2109 [a0, a1, a2, a3, a4, a5, a6, a7, a8] st bc bs hp Q) := Go_ifn (c := x = 0) (i := .ifCond .ne 15) rfl rfl
set_option maxRecDepth 100000 in
theorem sL_law_2109 {x : Nat} : Go kL_law 2109 [a0, a1, a2, (.ref x), a4, a5, a6, a7, a8] st bc bs hp Q ↔ Go kL_law 2110 [a0, a1, a2, (.ref x), a4, a5, a6, a7, a8] (.ref x :: st) bc bs hp Q := Go_next (i := .aload_n 3) rfl rfl
set_option maxRecDepth 100000 in
theorem sL_law_2110 : Go kL_law 2110 [a0, a1, a2, a3, a4, a5, a6, a7, a8] st bc bs hp Q ↔ Go kL_law 2111 [a0, a1, a2, a3, a4, a5, a6, a7, a8] (.int 0 :: st) bc bs hp Q := Go_next (i := .iconst 0) rfl rfl
set_option maxRecDepth 100000 in
theorem sL_law_2111 {x : Nat} {i : Int32} : Go kL_law 2111 [a0, a1, a2, a3, a4, a5, a6, a7, a8] (.int i :: .ref x :: st) bc bs hp Q ↔ RdL hp x i (fun v => Go kL_law 2112 [a0, a1, a2, a3, a4, a5, a6, a7, a8] (.long v :: st) bc bs hp Q) := Go_lald rfl
set_option maxRecDepth 100000 in
theorem sL_law_2112 {x : Int32} : Go kL_law 2112 [a0, a1, a2, a3, a4, a5, a6, (.int x), a8] st bc bs hp Q ↔ Go kL_law 2114 [a0, a1, a2, a3, a4, a5, a6, (.int x), a8] (.int x :: st) bc bs hp Q := Go_next (i := .iload 7) rfl rfl
end
