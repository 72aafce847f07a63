section
variable {a0 a1 a2 a3 a4 a5 a6 a7 a8 : Value} {st : List Value} {bc bs : Nat} {hp : Hp} {Q : Out → Hp → Prop}
set_option maxRecDepth 100000 in
theorem sL_law_0 : Go kL_law 0 [a0, a1, a2, a3, a4, a5, a6, a7, a8] st bc bs hp Q ↔ (1 ≤ bc ∧ 2 ≤ bs) ∧ Go kL_law 3 [a0, a1, a2, a3, a4, a5, a6, a7, a8] (.ref (hp.1 + 1) :: st) (bc - 1) (bs - 2) (addHp hp (.inr (7, dflt 7))) Q := Go_new rfl rfl (by decide) rfl
set_option maxRecDepth 100000 in
theorem sL_law_3 {x : Nat} : Go kL_law 3 [a0, a1, a2, a3, a4, a5, a6, a7, a8] (.ref x :: st) bc bs hp Q ↔ Go kL_law 4 [a0, a1, a2, a3, a4, a5, a6, a7, a8] (.ref x :: .ref x :: st) bc bs hp Q := Go_next (i := .dup) rfl rfl
set_option maxRecDepth 100000 in
theorem sL_law_4 {x : Nat} : Go kL_law 4 [a0, a1, a2, a3, a4, a5, a6, a7, a8] (.ref x :: st) bc bs hp Q ↔ (304 ≤ bc ∧ 5822 ≤ bs ∧ nsum st ≤ 8) ∧ Call kX7_init [.ref x] hp (Aft kL_law 7 [a0, a1, a2, a3, a4, a5, a6, a7, a8] st (bc - 304) (bs - 5822) Q) := Go_inv (i := .invokespecial 151) rfl rfl rfl rfl rfl rfl
set_option maxRecDepth 100000 in
theorem sL_law_7 {x : Nat} (hj : a0.category = 1) : Go kL_law 7 [a0, a1, a2, a3, a4, a5, a6, a7, a8] (.ref x :: st) bc bs hp Q ↔ Go kL_law 8 [a0, (.ref x), a2, a3, a4, a5, a6, a7, a8] st bc bs hp Q := Go_sto (i := .astore_n 1) (j := 1) (v := .ref x) rfl rfl (Nat.le_of_ble_eq_true rfl) (decide_eq_true hj) rfl
set_option maxRecDepth 100000 in
theorem sL_law_8 : Go kL_law 8 [a0, a1, a2, a3, a4, a5, a6, a7, a8] st bc bs hp Q ↔ (1 ≤ bc ∧ 41 ≤ bs) ∧ Go kL_law 11 [a0, a1, a2, a3, a4, a5, a6, a7, a8] (.ref (hp.1 + 1) :: st) (bc - 1) (bs - 41) (addHp hp (.inr (8, dflt 8))) Q := Go_new rfl rfl (by decide) rfl
set_option maxRecDepth 100000 in
theorem sL_law_11 {x : Nat} : Go kL_law 11 [a0, a1, a2, a3, a4, a5, a6, a7, a8] (.ref x :: st) bc bs hp Q ↔ Go kL_law 12 [a0, a1, a2, a3, a4, a5, a6, a7, a8] (.ref x :: .ref x :: st) bc bs hp Q := Go_next (i := .dup) rfl rfl
set_option maxRecDepth 100000 in
theorem sL_law_12 {x : Nat} : Go kL_law 12 [a0, a1, a2, a3, a4, a5, a6, a7, a8] (.ref x :: st) bc bs hp Q ↔ (33 ≤ bc ∧ 2961 ≤ bs ∧ nsum st ≤ 8) ∧ Call kX8_init [.ref x] hp (Aft kL_law 15 [a0, a1, a2, a3, a4, a5, a6, a7, a8] st (bc - 33) (bs - 2961) Q) := Go_inv (i := .invokespecial 154) rfl rfl rfl rfl rfl rfl
set_option maxRecDepth 100000 in
theorem sL_law_15 {x : Nat} (hj : a1.category = 1) : Go kL_law 15 [a0, a1, a2, a3, a4, a5, a6, a7, a8] (.ref x :: st) bc bs hp Q ↔ Go kL_law 16 [a0, a1, (.ref x), a3, a4, a5, a6, a7, a8] st bc bs hp Q := Go_sto (i := .astore_n 2) (j := 2) (v := .ref x) rfl rfl (Nat.le_of_ble_eq_true rfl) (decide_eq_true hj) rfl
set_option maxRecDepth 100000 in
theorem sL_law_16 : Go kL_law 16 [a0, a1, a2, a3, a4, a5, a6, a7, a8] st bc bs hp Q ↔ Go kL_law 17 [a0, a1, a2, a3, a4, a5, a6, a7, a8] (.int 1 :: st) bc bs hp Q := Go_next (i := .iconst 1) rfl rfl
set_option maxRecDepth 100000 in
theorem sL_law_17 : Go kL_law 17 [a0, a1, a2, a3, a4, a5, a6, a7, a8] (.int 1 :: st) bc bs hp Q ↔ (1 ≤ bc ∧ 1 ≤ bs) ∧ Go kL_law 19 [a0, a1, a2, a3, a4, a5, a6, a7, a8] (.ref (hp.1 + 1) :: st) (bc - 1) (bs - 1) (addHp hp (.inl (3, 1, .inr (.inl fun _ => 0)))) Q := Go_newa (q := 1) (ty := .long) rfl rfl (by decide) (by decide) rfl rfl
set_option maxRecDepth 100000 in
theorem sL_law_19 {x : Nat} (hj : a2.category = 1) : Go kL_law 19 [a0, a1, a2, a3, a4, a5, a6, a7, a8] (.ref x :: st) bc bs hp Q ↔ Go kL_law 20 [a0, a1, a2, (.ref x), a4, a5, a6, a7, a8] st bc bs hp Q := Go_sto (i := .astore_n 3) (j := 3) (v := .ref x) rfl rfl (Nat.le_of_ble_eq_true rfl) (decide_eq_true hj) rfl
set_option maxRecDepth 100000 in
theorem sL_law_20 : Go kL_law 20 [a0, a1, a2, a3, a4, a5, a6, a7, a8] st bc bs hp Q ↔ Go kL_law 21 [a0, a1, a2, a3, a4, a5, a6, a7, a8] (.int 1 :: st) bc bs hp Q := Go_next (i := .iconst 1) rfl rfl
set_option maxRecDepth 100000 in
theorem sL_law_21 : Go kL_law 21 [a0, a1, a2, a3, a4, a5, a6, a7, a8] (.int 1 :: st) bc bs hp Q ↔ (1 ≤ bc ∧ 1 ≤ bs) ∧ Go kL_law 23 [a0, a1, a2, a3, a4, a5, a6, a7, a8] (.ref (hp.1 + 1) :: st) (bc - 1) (bs - 1) (addHp hp (.inl (4, 1, .inr (.inr (.inr (.inl fun _ => 0)))))) Q := Go_newa (q := 1) (ty := .double) rfl rfl (by decide) (by decide) rfl rfl
set_option maxRecDepth 100000 in
theorem sL_law_23 {x : Nat} (hj : a3.category = 1) : Go kL_law 23 [a0, a1, a2, a3, a4, a5, a6, a7, a8] (.ref x :: st) bc bs hp Q ↔ Go kL_law 25 [a0, a1, a2, a3, (.ref x), a5, a6, a7, a8] st bc bs hp Q := Go_sto (i := .astore 4) (j := 4) (v := .ref x) rfl rfl (Nat.le_of_ble_eq_true rfl) (decide_eq_true hj) rfl
set_option maxRecDepth 100000 in
theorem sL_law_25 : Go kL_law 25 [a0, a1, a2, a3, a4, a5, a6, a7, a8] st bc bs hp Q ↔ Go kL_law 26 [a0, a1, a2, a3, a4, a5, a6, a7, a8] (.int 0 :: st) bc bs hp Q := Go_next (i := .iconst 0) rfl rfl
set_option maxRecDepth 100000 in
theorem sL_law_26 {x : Int32} (hj : a4.category = 1) : Go kL_law 26 [a0, a1, a2, a3, a4, a5, a6, a7, a8] (.int x :: st) bc bs hp Q ↔ Go kL_law 28 [a0, a1, a2, a3, a4, (.int x), a6, a7, a8] st bc bs hp Q := Go_sto (i := .istore 5) (j := 5) (v := .int x) rfl rfl (Nat.le_of_ble_eq_true rfl) (decide_eq_true hj) rfl
set_option maxRecDepth 100000 in
theorem sL_law_28 {x : Int32} : Go kL_law 28 [a0, a1, a2, a3, a4, (.int x), a6, a7, a8] st bc bs hp Q ↔ Go kL_law 30 [a0, a1, a2, a3, a4, (.int x), a6, a7, a8] (.int x :: st) bc bs hp Q := Go_next (i := .iload 5) rfl rfl
set_option maxRecDepth 100000 in
theorem sL_law_30 {x : Nat} : Go kL_law 30 [(.ref x), a1, a2, a3, a4, a5, a6, a7, a8] st bc bs hp Q ↔ Go kL_law 31 [(.ref x), a1, a2, a3, a4, a5, a6, a7, a8] (.ref x :: st) bc bs hp Q := Go_next (i := .aload_n 0) rfl rfl
set_option maxRecDepth 100000 in
theorem sL_law_31 {x : Nat} : Go kL_law 31 [a0, a1, a2, a3, a4, a5, a6, a7, a8] (.ref x :: st) bc bs hp Q ↔ RdLen hp x (fun v => Go kL_law 32 [a0, a1, a2, a3, a4, a5, a6, a7, a8] (.int v :: st) bc bs hp Q) := Go_alen rfl
set_option maxRecDepth 100000 in
theorem sL_law_32 : Go kL_law 32 [a0, a1, a2, a3, a4, a5, a6, a7, a8] st bc bs hp Q ↔ Go kL_law 34 [a0, a1, a2, a3, a4, a5, a6, a7, a8] (.int 7 :: st) bc bs hp Q := Go_next (i := .bipush 7) rfl rfl
set_option maxRecDepth 100000 in
theorem sL_law_34 {x y : Int32} : Go kL_law 34 [a0, a1, a2, a3, a4, a5, a6, a7, a8] (.int y :: .int x :: st) bc bs hp Q ↔ Go kL_law 35 [a0, a1, a2, a3, a4, a5, a6, a7, a8] (.int (x - y) :: st) bc bs hp Q := Go_next (i := .isub) rfl rfl
set_option maxRecDepth 100000 in
theorem sL_law_35 {x y : Int32} : Go kL_law 35 [a0, a1, a2, a3, a4, a5, a6, a7, a8] (.int y :: .int x :: st) bc bs hp Q ↔ (y < x → Go kL_law 3092 [a0, a1, a2, a3, a4, a5, a6, a7, a8] st bc bs hp Q) ∧ (¬ y < x → Go kL_law 38 [a0, a1, a2, a3, a4, a5, a6, a7, a8] st bc bs hp Q) := Go_ift (c := y < x) (i := .if_icmp .gt 3057) rfl rfl
set_option maxRecDepth 100000 in
theorem sL_law_38 {x : Nat} : Go kL_law 38 [(.ref x), a1, a2, a3, a4, a5, a6, a7, a8] st bc bs hp Q ↔ Go kL_law 39 [(.ref x), a1, a2, a3, a4, a5, a6, a7, a8] (.ref x :: st) bc bs hp Q := Go_next (i := .aload_n 0) rfl rfl
set_option maxRecDepth 100000 in
theorem sL_law_39 {x : Int32} : Go kL_law 39 [a0, a1, a2, a3, a4, (.int x), a6, a7, a8] st bc bs hp Q ↔ Go kL_law 41 [a0, a1, a2, a3, a4, (.int x), a6, a7, a8] (.int x :: st) bc bs hp Q := Go_next (i := .iload 5) rfl rfl
set_option maxRecDepth 100000 in
theorem sL_law_41 {x : Nat} {i : Int32} : Go kL_law 41 [a0, a1, a2, a3, a4, a5, a6, a7, a8] (.int i :: .ref x :: st) bc bs hp Q ↔ RdA hp x 0 i (fun v => Go kL_law 42 [a0, a1, a2, a3, a4, a5, a6, a7, a8] (.int v :: st) bc bs hp Q) := Go_iald rfl
set_option maxRecDepth 100000 in
theorem sL_law_42 : Go kL_law 42 [a0, a1, a2, a3, a4, a5, a6, a7, a8] st bc bs hp Q ↔ Go kL_law 44 [a0, a1, a2, a3, a4, a5, a6, a7, a8] (.int 63 :: st) bc bs hp Q := Go_next (i := .bipush 63) rfl rfl
set_option maxRecDepth 100000 in
theorem sL_law_44 {x y : Int32} : Go kL_law 44 [a0, a1, a2, a3, a4, a5, a6, a7, a8] (.int y :: .int x :: st) bc bs hp Q ↔ Go kL_law 45 [a0, a1, a2, a3, a4, a5, a6, a7, a8] (.int (x &&& y) :: st) bc bs hp Q := Go_next (i := .iand) rfl rfl
set_option maxRecDepth 100000 in
theorem sL_law_236 {x : Nat} : Go kL_law 236 [a0, (.ref x), a2, a3, a4, a5, a6, a7, a8] st bc bs hp Q ↔ Go kL_law 237 [a0, (.ref x), a2, a3, a4, a5, a6, a7, a8] (.ref x :: st) bc bs hp Q := Go_next (i := .aload_n 1) rfl rfl
set_option maxRecDepth 100000 in
theorem sL_law_237 {x : Nat} : Go kL_law 237 [a0, a1, a2, (.ref x), a4, a5, a6, a7, a8] st bc bs hp Q ↔ Go kL_law 238 [a0, a1, a2, (.ref x), a4, a5, a6, a7, a8] (.ref x :: st) bc bs hp Q := Go_next (i := .aload_n 3) rfl rfl
set_option maxRecDepth 100000 in
theorem sL_law_238 {p0 : Nat} {p1 : Nat} : Go kL_law 238 [a0, a1, a2, a3, a4, a5, a6, a7, a8] (.ref p1 :: .ref p0 :: st) bc bs hp Q ↔ (1 ≤ bc ∧ 6 ≤ bs ∧ nsum st ≤ 8) ∧ Call kL_addLamp [.ref p0, .ref p1] hp (Aft kL_law 241 [a0, a1, a2, a3, a4, a5, a6, a7, a8] st (bc - 1) (bs - 6) Q) := Go_inv (i := .invokestatic 155) rfl rfl rfl rfl rfl rfl
set_option maxRecDepth 100000 in
theorem sL_law_241 {x : Int32} (hj : a5.category = 1) : Go kL_law 241 [a0, a1, a2, a3, a4, a5, a6, a7, a8] (.int x :: st) bc bs hp Q ↔ Go kL_law 243 [a0, a1, a2, a3, a4, a5, (.int x), a7, a8] st bc bs hp Q := Go_sto (i := .istore 6) (j := 6) (v := .int x) rfl rfl (Nat.le_of_ble_eq_true rfl) (decide_eq_true hj) rfl
set_option maxRecDepth 100000 in
theorem sL_law_243 {x : Nat} : Go kL_law 243 [a0, a1, (.ref x), a3, a4, a5, a6, a7, a8] st bc bs hp Q ↔ Go kL_law 244 [a0, a1, (.ref x), a3, a4, a5, a6, a7, a8] (.ref x :: st) bc bs hp Q := Go_next (i := .aload_n 2) rfl rfl
set_option maxRecDepth 100000 in
theorem sL_law_244 {x : Nat} : Go kL_law 244 [a0, a1, a2, a3, a4, a5, a6, a7, a8] (.ref x :: st) bc bs hp Q ↔ Rcv hp x 8 ∧ nsum st ≤ 8 ∧ Call kX8_addLamp [.ref x] hp (Aft kL_law 247 [a0, a1, a2, a3, a4, a5, a6, a7, a8] st bc bs Q) := Go_invV0 rfl rfl rfl rfl rfl rfl rfl rfl rfl rfl
set_option maxRecDepth 100000 in
theorem sL_law_247 {x : Int32} (hj : a6.category = 1) : Go kL_law 247 [a0, a1, a2, a3, a4, a5, a6, a7, a8] (.int x :: st) bc bs hp Q ↔ Go kL_law 249 [a0, a1, a2, a3, a4, a5, a6, (.int x), a8] st bc bs hp Q := Go_sto (i := .istore 7) (j := 7) (v := .int x) rfl rfl (Nat.le_of_ble_eq_true rfl) (decide_eq_true hj) rfl
set_option maxRecDepth 100000 in
theorem sL_law_249 {x : Nat} : Go kL_law 249 [a0, a1, (.ref x), a3, a4, a5, a6, a7, a8] st bc bs hp Q ↔ Go kL_law 250 [a0, a1, (.ref x), a3, a4, a5, a6, a7, a8] (.ref x :: st) bc bs hp Q := Go_next (i := .aload_n 2) rfl rfl
set_option maxRecDepth 100000 in
theorem sL_law_250 {x : Nat} : Go kL_law 250 [a0, a1, a2, a3, a4, a5, a6, a7, a8] (.ref x :: st) bc bs hp Q ↔ Rcv hp x 8 ∧ nsum st ≤ 8 ∧ Call kX8_thrown [.ref x] hp (Aft kL_law 253 [a0, a1, a2, a3, a4, a5, a6, a7, a8] st bc bs Q) := Go_invV0 rfl rfl rfl rfl rfl rfl rfl rfl rfl rfl
set_option maxRecDepth 100000 in
theorem sL_law_253 {x : Int32} : Go kL_law 253 [a0, a1, a2, a3, a4, a5, (.int x), a7, a8] st bc bs hp Q ↔ Go kL_law 255 [a0, a1, a2, a3, a4, a5, (.int x), a7, a8] (.int x :: st) bc bs hp Q := Go_next (i := .iload 6) rfl rfl
set_option maxRecDepth 100000 in
theorem sL_law_255 {x y : Int32} : Go kL_law 255 [a0, a1, a2, a3, a4, a5, a6, a7, a8] (.int y :: .int x :: st) bc bs hp Q ↔ (x = y → Go kL_law 260 [a0, a1, a2, a3, a4, a5, a6, a7, a8] st bc bs hp Q) ∧ (¬ x = y → Go kL_law 258 [a0, a1, a2, a3, a4, a5, a6, a7, a8] st bc bs hp Q) := Go_ift (c := x = y) (i := .if_icmp .eq 5) rfl rfl
set_option maxRecDepth 100000 in
theorem sL_law_258 : Go kL_law 258 [a0, a1, a2, a3, a4, a5, a6, a7, a8] st bc bs hp Q ↔ Go kL_law 259 [a0, a1, a2, a3, a4, a5, a6, a7, a8] (.int 0 :: st) bc bs hp Q := Go_next (i := .iconst 0) rfl rfl
set_option maxRecDepth 100000 in
theorem sL_law_259 {x : Int32} : Go kL_law 259 [a0, a1, a2, a3, a4, a5, a6, a7, a8] [.int x] bc bs hp Q ↔ outI kL_law x = true ∧ Q (.inl (some (.int x))) hp := Go_retIf (i := .ireturn) rfl rfl
set_option maxRecDepth 100000 in
theorem sL_law_260 {x : Int32} : Go kL_law 260 [a0, a1, a2, a3, a4, a5, (.int x), a7, a8] st bc bs hp Q ↔ Go kL_law 262 [a0, a1, a2, a3, a4, a5, (.int x), a7, a8] (.int x :: st) bc bs hp Q := Go_next (i := .iload 6) rfl rfl
set_option maxRecDepth 100000 in
theorem sL_law_262 {x : Int32} : Go kL_law 262 [a0, a1, a2, a3, a4, a5, a6, a7, a8] (.int x :: st) bc bs hp Q ↔ (¬ x = 0 → Go kL_law 277 [a0, a1, a2, a3, a4, a5, a6, a7, a8] st bc bs hp Q) ∧ (x = 0 → Go kL_law 265 [a0, a1, a2, a3, a4, a5, a6, a7, a8] st bc bs hp Q) := Go_ifn (c := x = 0) (i := .ifCond .ne 15) rfl rfl
set_option maxRecDepth 100000 in
theorem sL_law_265 {x : Nat} : Go kL_law 265 [a0, a1, a2, (.ref x), a4, a5, a6, a7, a8] st bc bs hp Q ↔ Go kL_law 266 [a0, a1, a2, (.ref x), a4, a5, a6, a7, a8] (.ref x :: st) bc bs hp Q := Go_next (i := .aload_n 3) rfl rfl
set_option maxRecDepth 100000 in
theorem sL_law_266 : Go kL_law 266 [a0, a1, a2, a3, a4, a5, a6, a7, a8] st bc bs hp Q ↔ Go kL_law 267 [a0, a1, a2, a3, a4, a5, a6, a7, a8] (.int 0 :: st) bc bs hp Q := Go_next (i := .iconst 0) rfl rfl
set_option maxRecDepth 100000 in
theorem sL_law_267 {x : Nat} {i : Int32} : Go kL_law 267 [a0, a1, a2, a3, a4, a5, a6, a7, a8] (.int i :: .ref x :: st) bc bs hp Q ↔ RdL hp x i (fun v => Go kL_law 268 [a0, a1, a2, a3, a4, a5, a6, a7, a8] (.long v :: st) bc bs hp Q) := Go_lald rfl
set_option maxRecDepth 100000 in
theorem sL_law_268 {x : Int32} : Go kL_law 268 [a0, a1, a2, a3, a4, a5, a6, (.int x), a8] st bc bs hp Q ↔ Go kL_law 270 [a0, a1, a2, a3, a4, a5, a6, (.int x), a8] (.int x :: st) bc bs hp Q := Go_next (i := .iload 7) rfl rfl
set_option maxRecDepth 100000 in
theorem sL_law_270 {x : Int32} : Go kL_law 270 [a0, a1, a2, a3, a4, a5, a6, a7, a8] (.int x :: st) bc bs hp Q ↔ Go kL_law 271 [a0, a1, a2, a3, a4, a5, a6, a7, a8] (.long x.toInt64 :: st) bc bs hp Q := Go_next (i := .i2l) rfl rfl
set_option maxRecDepth 100000 in
theorem sL_law_271 {x y : Int64} : Go kL_law 271 [a0, a1, a2, a3, a4, a5, a6, a7, a8] (.long y :: .long x :: st) bc bs hp Q ↔ Go kL_law 272 [a0, a1, a2, a3, a4, a5, a6, a7, a8] (.int (lg_cmp x y) :: st) bc bs hp Q := Go_next (i := .lcmp) rfl rfl
set_option maxRecDepth 100000 in
theorem sL_law_272 {x : Int32} : Go kL_law 272 [a0, a1, a2, a3, a4, a5, a6, a7, a8] (.int x :: st) bc bs hp Q ↔ (x = 0 → Go kL_law 277 [a0, a1, a2, a3, a4, a5, a6, a7, a8] st bc bs hp Q) ∧ (¬ x = 0 → Go kL_law 275 [a0, a1, a2, a3, a4, a5, a6, a7, a8] st bc bs hp Q) := Go_ift (c := x = 0) (i := .ifCond .eq 5) rfl rfl
set_option maxRecDepth 100000 in
theorem sL_law_275 : Go kL_law 275 [a0, a1, a2, a3, a4, a5, a6, a7, a8] st bc bs hp Q ↔ Go kL_law 276 [a0, a1, a2, a3, a4, a5, a6, a7, a8] (.int 0 :: st) bc bs hp Q := Go_next (i := .iconst 0) rfl rfl
set_option maxRecDepth 100000 in
theorem sL_law_276 {x : Int32} : Go kL_law 276 [a0, a1, a2, a3, a4, a5, a6, a7, a8] [.int x] bc bs hp Q ↔ outI kL_law x = true ∧ Q (.inl (some (.int x))) hp := Go_retIf (i := .ireturn) rfl rfl
set_option maxRecDepth 100000 in
theorem sL_law_277 : Go kL_law 277 [a0, a1, a2, a3, a4, a5, a6, a7, a8] st bc bs hp Q ↔ Go kL_law 3086 [a0, a1, a2, a3, a4, a5, a6, a7, a8] st bc bs hp Q := Go_next (i := .goto 2809) rfl rfl
set_option maxRecDepth 100000 in
theorem sL_law_280 {x : Nat} : Go kL_law 280 [a0, (.ref x), a2, a3, a4, a5, a6, a7, a8] st bc bs hp Q ↔ Go kL_law 281 [a0, (.ref x), a2, a3, a4, a5, a6, a7, a8] (.ref x :: st) bc bs hp Q := Go_next (i := .aload_n 1) rfl rfl
set_option maxRecDepth 100000 in
theorem sL_law_281 {x : Nat} : Go kL_law 281 [(.ref x), a1, a2, a3, a4, a5, a6, a7, a8] st bc bs hp Q ↔ Go kL_law 282 [(.ref x), a1, a2, a3, a4, a5, a6, a7, a8] (.ref x :: st) bc bs hp Q := Go_next (i := .aload_n 0) rfl rfl
set_option maxRecDepth 100000 in
theorem sL_law_282 {x : Int32} : Go kL_law 282 [a0, a1, a2, a3, a4, (.int x), a6, a7, a8] st bc bs hp Q ↔ Go kL_law 284 [a0, a1, a2, a3, a4, (.int x), a6, a7, a8] (.int x :: st) bc bs hp Q := Go_next (i := .iload 5) rfl rfl
set_option maxRecDepth 100000 in
theorem sL_law_284 : Go kL_law 284 [a0, a1, a2, a3, a4, a5, a6, a7, a8] st bc bs hp Q ↔ Go kL_law 285 [a0, a1, a2, a3, a4, a5, a6, a7, a8] (.int 1 :: st) bc bs hp Q := Go_next (i := .iconst 1) rfl rfl
set_option maxRecDepth 100000 in
theorem sL_law_285 {x y : Int32} : Go kL_law 285 [a0, a1, a2, a3, a4, a5, a6, a7, a8] (.int y :: .int x :: st) bc bs hp Q ↔ Go kL_law 286 [a0, a1, a2, a3, a4, a5, a6, a7, a8] (.int (x + y) :: st) bc bs hp Q := Go_next (i := .iadd) rfl rfl
set_option maxRecDepth 100000 in
theorem sL_law_286 {x : Nat} {i : Int32} : Go kL_law 286 [a0, a1, a2, a3, a4, a5, a6, a7, a8] (.int i :: .ref x :: st) bc bs hp Q ↔ RdA hp x 0 i (fun v => Go kL_law 287 [a0, a1, a2, a3, a4, a5, a6, a7, a8] (.int v :: st) bc bs hp Q) := Go_iald rfl
set_option maxRecDepth 100000 in
theorem sL_law_287 {x : Nat} : Go kL_law 287 [(.ref x), a1, a2, a3, a4, a5, a6, a7, a8] st bc bs hp Q ↔ Go kL_law 288 [(.ref x), a1, a2, a3, a4, a5, a6, a7, a8] (.ref x :: st) bc bs hp Q := Go_next (i := .aload_n 0) rfl rfl
set_option maxRecDepth 100000 in
theorem sL_law_288 {x : Int32} : Go kL_law 288 [a0, a1, a2, a3, a4, (.int x), a6, a7, a8] st bc bs hp Q ↔ Go kL_law 290 [a0, a1, a2, a3, a4, (.int x), a6, a7, a8] (.int x :: st) bc bs hp Q := Go_next (i := .iload 5) rfl rfl
set_option maxRecDepth 100000 in
theorem sL_law_290 : Go kL_law 290 [a0, a1, a2, a3, a4, a5, a6, a7, a8] st bc bs hp Q ↔ Go kL_law 291 [a0, a1, a2, a3, a4, a5, a6, a7, a8] (.int 2 :: st) bc bs hp Q := Go_next (i := .iconst 2) rfl rfl
set_option maxRecDepth 100000 in
theorem sL_law_291 {x y : Int32} : Go kL_law 291 [a0, a1, a2, a3, a4, a5, a6, a7, a8] (.int y :: .int x :: st) bc bs hp Q ↔ Go kL_law 292 [a0, a1, a2, a3, a4, a5, a6, a7, a8] (.int (x + y) :: st) bc bs hp Q := Go_next (i := .iadd) rfl rfl
set_option maxRecDepth 100000 in
theorem sL_law_292 {x : Nat} {i : Int32} : Go kL_law 292 [a0, a1, a2, a3, a4, a5, a6, a7, a8] (.int i :: .ref x :: st) bc bs hp Q ↔ RdA hp x 0 i (fun v => Go kL_law 293 [a0, a1, a2, a3, a4, a5, a6, a7, a8] (.int v :: st) bc bs hp Q) := Go_iald rfl
set_option maxRecDepth 100000 in
theorem sL_law_293 {x : Nat} : Go kL_law 293 [a0, a1, a2, (.ref x), a4, a5, a6, a7, a8] st bc bs hp Q ↔ Go kL_law 294 [a0, a1, a2, (.ref x), a4, a5, a6, a7, a8] (.ref x :: st) bc bs hp Q := Go_next (i := .aload_n 3) rfl rfl
set_option maxRecDepth 100000 in
theorem sL_law_294 {p0 : Nat} {p1 : Int32} {p2 : Int32} {p3 : Nat} : Go kL_law 294 [a0, a1, a2, a3, a4, a5, a6, a7, a8] (.ref p3 :: .int p2 :: .int p1 :: .ref p0 :: st) bc bs hp Q ↔ (3 ≤ bc ∧ 18 ≤ bs ∧ nsum st ≤ 8) ∧ Call kL_patch [.ref p0, .int p1, .int p2, .ref p3] hp (Aft kL_law 297 [a0, a1, a2, a3, a4, a5, a6, a7, a8] st (bc - 3) (bs - 18) Q) := Go_inv (i := .invokestatic 164) rfl rfl rfl rfl rfl rfl
set_option maxRecDepth 100000 in
theorem sL_law_297 {x : Int32} (hj : a5.category = 1) : Go kL_law 297 [a0, a1, a2, a3, a4, a5, a6, a7, a8] (.int x :: st) bc bs hp Q ↔ Go kL_law 299 [a0, a1, a2, a3, a4, a5, (.int x), a7, a8] st bc bs hp Q := Go_sto (i := .istore 6) (j := 6) (v := .int x) rfl rfl (Nat.le_of_ble_eq_true rfl) (decide_eq_true hj) rfl
set_option maxRecDepth 100000 in
theorem sL_law_299 {x : Nat} : Go kL_law 299 [a0, a1, (.ref x), a3, a4, a5, a6, a7, a8] st bc bs hp Q ↔ Go kL_law 300 [a0, a1, (.ref x), a3, a4, a5, a6, a7, a8] (.ref x :: st) bc bs hp Q := Go_next (i := .aload_n 2) rfl rfl
set_option maxRecDepth 100000 in
theorem sL_law_300 {x : Nat} : Go kL_law 300 [(.ref x), a1, a2, a3, a4, a5, a6, a7, a8] st bc bs hp Q ↔ Go kL_law 301 [(.ref x), a1, a2, a3, a4, a5, a6, a7, a8] (.ref x :: st) bc bs hp Q := Go_next (i := .aload_n 0) rfl rfl
set_option maxRecDepth 100000 in
theorem sL_law_301 {x : Int32} : Go kL_law 301 [a0, a1, a2, a3, a4, (.int x), a6, a7, a8] st bc bs hp Q ↔ Go kL_law 303 [a0, a1, a2, a3, a4, (.int x), a6, a7, a8] (.int x :: st) bc bs hp Q := Go_next (i := .iload 5) rfl rfl
set_option maxRecDepth 100000 in
theorem sL_law_303 : Go kL_law 303 [a0, a1, a2, a3, a4, a5, a6, a7, a8] st bc bs hp Q ↔ Go kL_law 304 [a0, a1, a2, a3, a4, a5, a6, a7, a8] (.int 1 :: st) bc bs hp Q := Go_next (i := .iconst 1) rfl rfl
set_option maxRecDepth 100000 in
theorem sL_law_304 {x y : Int32} : Go kL_law 304 [a0, a1, a2, a3, a4, a5, a6, a7, a8] (.int y :: .int x :: st) bc bs hp Q ↔ Go kL_law 305 [a0, a1, a2, a3, a4, a5, a6, a7, a8] (.int (x + y) :: st) bc bs hp Q := Go_next (i := .iadd) rfl rfl
set_option maxRecDepth 100000 in
theorem sL_law_305 {x : Nat} {i : Int32} : Go kL_law 305 [a0, a1, a2, a3, a4, a5, a6, a7, a8] (.int i :: .ref x :: st) bc bs hp Q ↔ RdA hp x 0 i (fun v => Go kL_law 306 [a0, a1, a2, a3, a4, a5, a6, a7, a8] (.int v :: st) bc bs hp Q) := Go_iald rfl
set_option maxRecDepth 100000 in
theorem sL_law_306 {x : Nat} : Go kL_law 306 [(.ref x), a1, a2, a3, a4, a5, a6, a7, a8] st bc bs hp Q ↔ Go kL_law 307 [(.ref x), a1, a2, a3, a4, a5, a6, a7, a8] (.ref x :: st) bc bs hp Q := Go_next (i := .aload_n 0) rfl rfl
set_option maxRecDepth 100000 in
theorem sL_law_307 {x : Int32} : Go kL_law 307 [a0, a1, a2, a3, a4, (.int x), a6, a7, a8] st bc bs hp Q ↔ Go kL_law 309 [a0, a1, a2, a3, a4, (.int x), a6, a7, a8] (.int x :: st) bc bs hp Q := Go_next (i := .iload 5) rfl rfl
set_option maxRecDepth 100000 in
theorem sL_law_309 : Go kL_law 309 [a0, a1, a2, a3, a4, a5, a6, a7, a8] st bc bs hp Q ↔ Go kL_law 310 [a0, a1, a2, a3, a4, a5, a6, a7, a8] (.int 2 :: st) bc bs hp Q := Go_next (i := .iconst 2) rfl rfl
set_option maxRecDepth 100000 in
theorem sL_law_310 {x y : Int32} : Go kL_law 310 [a0, a1, a2, a3, a4, a5, a6, a7, a8] (.int y :: .int x :: st) bc bs hp Q ↔ Go kL_law 311 [a0, a1, a2, a3, a4, a5, a6, a7, a8] (.int (x + y) :: st) bc bs hp Q := Go_next (i := .iadd) rfl rfl
set_option maxRecDepth 100000 in
theorem sL_law_311 {x : Nat} {i : Int32} : Go kL_law 311 [a0, a1, a2, a3, a4, a5, a6, a7, a8] (.int i :: .ref x :: st) bc bs hp Q ↔ RdA hp x 0 i (fun v => Go kL_law 312 [a0, a1, a2, a3, a4, a5, a6, a7, a8] (.int v :: st) bc bs hp Q) := Go_iald rfl
set_option maxRecDepth 100000 in
theorem sL_law_312 {p0 : Int32} {p1 : Int32} {x : Nat} : Go kL_law 312 [a0, a1, a2, a3, a4, a5, a6, a7, a8] (.int p1 :: .int p0 :: .ref x :: st) bc bs hp Q ↔ Rcv hp x 8 ∧ nsum st ≤ 8 ∧ Call kX8_patch [.ref x, .int p0, .int p1] hp (Aft kL_law 315 [a0, a1, a2, a3, a4, a5, a6, a7, a8] st bc bs Q) := Go_invV0 rfl rfl rfl rfl rfl rfl rfl rfl rfl rfl
set_option maxRecDepth 100000 in
theorem sL_law_315 {x : Int32} (hj : a6.category = 1) : Go kL_law 315 [a0, a1, a2, a3, a4, a5, a6, a7, a8] (.int x :: st) bc bs hp Q ↔ Go kL_law 317 [a0, a1, a2, a3, a4, a5, a6, (.int x), a8] st bc bs hp Q := Go_sto (i := .istore 7) (j := 7) (v := .int x) rfl rfl (Nat.le_of_ble_eq_true rfl) (decide_eq_true hj) rfl
set_option maxRecDepth 100000 in
theorem sL_law_317 {x : Nat} : Go kL_law 317 [a0, a1, (.ref x), a3, a4, a5, a6, a7, a8] st bc bs hp Q ↔ Go kL_law 318 [a0, a1, (.ref x), a3, a4, a5, a6, a7, a8] (.ref x :: st) bc bs hp Q := Go_next (i := .aload_n 2) rfl rfl
set_option maxRecDepth 100000 in
theorem sL_law_318 {x : Nat} : Go kL_law 318 [a0, a1, a2, a3, a4, a5, a6, a7, a8] (.ref x :: st) bc bs hp Q ↔ Rcv hp x 8 ∧ nsum st ≤ 8 ∧ Call kX8_thrown [.ref x] hp (Aft kL_law 321 [a0, a1, a2, a3, a4, a5, a6, a7, a8] st bc bs Q) := Go_invV0 rfl rfl rfl rfl rfl rfl rfl rfl rfl rfl
set_option maxRecDepth 100000 in
theorem sL_law_321 {x : Int32} : Go kL_law 321 [a0, a1, a2, a3, a4, a5, (.int x), a7, a8] st bc bs hp Q ↔ Go kL_law 323 [a0, a1, a2, a3, a4, a5, (.int x), a7, a8] (.int x :: st) bc bs hp Q := Go_next (i := .iload 6) rfl rfl
set_option maxRecDepth 100000 in
theorem sL_law_323 {x y : Int32} : Go kL_law 323 [a0, a1, a2, a3, a4, a5, a6, a7, a8] (.int y :: .int x :: st) bc bs hp Q ↔ (x = y → Go kL_law 328 [a0, a1, a2, a3, a4, a5, a6, a7, a8] st bc bs hp Q) ∧ (¬ x = y → Go kL_law 326 [a0, a1, a2, a3, a4, a5, a6, a7, a8] st bc bs hp Q) := Go_ift (c := x = y) (i := .if_icmp .eq 5) rfl rfl
set_option maxRecDepth 100000 in
theorem sL_law_326 : Go kL_law 326 [a0, a1, a2, a3, a4, a5, a6, a7, a8] st bc bs hp Q ↔ Go kL_law 327 [a0, a1, a2, a3, a4, a5, a6, a7, a8] (.int 0 :: st) bc bs hp Q := Go_next (i := .iconst 0) rfl rfl
set_option maxRecDepth 100000 in
theorem sL_law_327 {x : Int32} : Go kL_law 327 [a0, a1, a2, a3, a4, a5, a6, a7, a8] [.int x] bc bs hp Q ↔ outI kL_law x = true ∧ Q (.inl (some (.int x))) hp := Go_retIf (i := .ireturn) rfl rfl
set_option maxRecDepth 100000 in
theorem sL_law_328 {x : Int32} : Go kL_law 328 [a0, a1, a2, a3, a4, a5, (.int x), a7, a8] st bc bs hp Q ↔ Go kL_law 330 [a0, a1, a2, a3, a4, a5, (.int x), a7, a8] (.int x :: st) bc bs hp Q := Go_next (i := .iload 6) rfl rfl
set_option maxRecDepth 100000 in
theorem sL_law_330 {x : Int32} : Go kL_law 330 [a0, a1, a2, a3, a4, a5, a6, a7, a8] (.int x :: st) bc bs hp Q ↔ (¬ x = 0 → Go kL_law 345 [a0, a1, a2, a3, a4, a5, a6, a7, a8] st bc bs hp Q) ∧ (x = 0 → Go kL_law 333 [a0, a1, a2, a3, a4, a5, a6, a7, a8] st bc bs hp Q) := Go_ifn (c := x = 0) (i := .ifCond .ne 15) rfl rfl
set_option maxRecDepth 100000 in
theorem sL_law_333 {x : Nat} : Go kL_law 333 [a0, a1, a2, (.ref x), a4, a5, a6, a7, a8] st bc bs hp Q ↔ Go kL_law 334 [a0, a1, a2, (.ref x), a4, a5, a6, a7, a8] (.ref x :: st) bc bs hp Q := Go_next (i := .aload_n 3) rfl rfl
set_option maxRecDepth 100000 in
theorem sL_law_334 : Go kL_law 334 [a0, a1, a2, a3, a4, a5, a6, a7, a8] st bc bs hp Q ↔ Go kL_law 335 [a0, a1, a2, a3, a4, a5, a6, a7, a8] (.int 0 :: st) bc bs hp Q := Go_next (i := .iconst 0) rfl rfl
set_option maxRecDepth 100000 in
theorem sL_law_335 {x : Nat} {i : Int32} : Go kL_law 335 [a0, a1, a2, a3, a4, a5, a6, a7, a8] (.int i :: .ref x :: st) bc bs hp Q ↔ RdL hp x i (fun v => Go kL_law 336 [a0, a1, a2, a3, a4, a5, a6, a7, a8] (.long v :: st) bc bs hp Q) := Go_lald rfl
set_option maxRecDepth 100000 in
theorem sL_law_336 {x : Int32} : Go kL_law 336 [a0, a1, a2, a3, a4, a5, a6, (.int x), a8] st bc bs hp Q ↔ Go kL_law 338 [a0, a1, a2, a3, a4, a5, a6, (.int x), a8] (.int x :: st) bc bs hp Q := Go_next (i := .iload 7) rfl rfl
set_option maxRecDepth 100000 in
theorem sL_law_338 {x : Int32} : Go kL_law 338 [a0, a1, a2, a3, a4, a5, a6, a7, a8] (.int x :: st) bc bs hp Q ↔ Go kL_law 339 [a0, a1, a2, a3, a4, a5, a6, a7, a8] (.long x.toInt64 :: st) bc bs hp Q := Go_next (i := .i2l) rfl rfl
set_option maxRecDepth 100000 in
theorem sL_law_339 {x y : Int64} : Go kL_law 339 [a0, a1, a2, a3, a4, a5, a6, a7, a8] (.long y :: .long x :: st) bc bs hp Q ↔ Go kL_law 340 [a0, a1, a2, a3, a4, a5, a6, a7, a8] (.int (lg_cmp x y) :: st) bc bs hp Q := Go_next (i := .lcmp) rfl rfl
set_option maxRecDepth 100000 in
theorem sL_law_340 {x : Int32} : Go kL_law 340 [a0, a1, a2, a3, a4, a5, a6, a7, a8] (.int x :: st) bc bs hp Q ↔ (x = 0 → Go kL_law 345 [a0, a1, a2, a3, a4, a5, a6, a7, a8] st bc bs hp Q) ∧ (¬ x = 0 → Go kL_law 343 [a0, a1, a2, a3, a4, a5, a6, a7, a8] st bc bs hp Q) := Go_ift (c := x = 0) (i := .ifCond .eq 5) rfl rfl
set_option maxRecDepth 100000 in
theorem sL_law_343 : Go kL_law 343 [a0, a1, a2, a3, a4, a5, a6, a7, a8] st bc bs hp Q ↔ Go kL_law 344 [a0, a1, a2, a3, a4, a5, a6, a7, a8] (.int 0 :: st) bc bs hp Q := Go_next (i := .iconst 0) rfl rfl
set_option maxRecDepth 100000 in
theorem sL_law_344 {x : Int32} : Go kL_law 344 [a0, a1, a2, a3, a4, a5, a6, a7, a8] [.int x] bc bs hp Q ↔ outI kL_law x = true ∧ Q (.inl (some (.int x))) hp := Go_retIf (i := .ireturn) rfl rfl
set_option maxRecDepth 100000 in
theorem sL_law_345 : Go kL_law 345 [a0, a1, a2, a3, a4, a5, a6, a7, a8] st bc bs hp Q ↔ Go kL_law 3086 [a0, a1, a2, a3, a4, a5, a6, a7, a8] st bc bs hp Q := Go_next (i := .goto 2741) rfl rfl
set_option maxRecDepth 100000 in
theorem sL_law_348 {x : Nat} : Go kL_law 348 [a0, (.ref x), a2, a3, a4, a5, a6, a7, a8] st bc bs hp Q ↔ Go kL_law 349 [a0, (.ref x), a2, a3, a4, a5, a6, a7, a8] (.ref x :: st) bc bs hp Q := Go_next (i := .aload_n 1) rfl rfl
set_option maxRecDepth 100000 in
theorem sL_law_349 {x : Nat} : Go kL_law 349 [a0, a1, a2, (.ref x), a4, a5, a6, a7, a8] st bc bs hp Q ↔ Go kL_law 350 [a0, a1, a2, (.ref x), a4, a5, a6, a7, a8] (.ref x :: st) bc bs hp Q := Go_next (i := .aload_n 3) rfl rfl
set_option maxRecDepth 100000 in
theorem sL_law_350 {p0 : Nat} {p1 : Nat} : Go kL_law 350 [a0, a1, a2, a3, a4, a5, a6, a7, a8] (.ref p1 :: .ref p0 :: st) bc bs hp Q ↔ (1 ≤ bc ∧ 6 ≤ bs ∧ nsum st ≤ 8) ∧ Call kL_addGroup [.ref p0, .ref p1] hp (Aft kL_law 353 [a0, a1, a2, a3, a4, a5, a6, a7, a8] st (bc - 1) (bs - 6) Q) := Go_inv (i := .invokestatic 168) rfl rfl rfl rfl rfl rfl
set_option maxRecDepth 100000 in
theorem sL_law_353 {x : Int32} (hj : a5.category = 1) : Go kL_law 353 [a0, a1, a2, a3, a4, a5, a6, a7, a8] (.int x :: st) bc bs hp Q ↔ Go kL_law 355 [a0, a1, a2, a3, a4, a5, (.int x), a7, a8] st bc bs hp Q := Go_sto (i := .istore 6) (j := 6) (v := .int x) rfl rfl (Nat.le_of_ble_eq_true rfl) (decide_eq_true hj) rfl
set_option maxRecDepth 100000 in
theorem sL_law_355 {x : Nat} : Go kL_law 355 [a0, a1, (.ref x), a3, a4, a5, a6, a7, a8] st bc bs hp Q ↔ Go kL_law 356 [a0, a1, (.ref x), a3, a4, a5, a6, a7, a8] (.ref x :: st) bc bs hp Q := Go_next (i := .aload_n 2) rfl rfl
set_option maxRecDepth 100000 in
theorem sL_law_356 {x : Nat} : Go kL_law 356 [a0, a1, a2, a3, a4, a5, a6, a7, a8] (.ref x :: st) bc bs hp Q ↔ Rcv hp x 8 ∧ nsum st ≤ 8 ∧ Call kX8_addGroup [.ref x] hp (Aft kL_law 359 [a0, a1, a2, a3, a4, a5, a6, a7, a8] st bc bs Q) := Go_invV0 rfl rfl rfl rfl rfl rfl rfl rfl rfl rfl
set_option maxRecDepth 100000 in
theorem sL_law_359 {x : Int32} (hj : a6.category = 1) : Go kL_law 359 [a0, a1, a2, a3, a4, a5, a6, a7, a8] (.int x :: st) bc bs hp Q ↔ Go kL_law 361 [a0, a1, a2, a3, a4, a5, a6, (.int x), a8] st bc bs hp Q := Go_sto (i := .istore 7) (j := 7) (v := .int x) rfl rfl (Nat.le_of_ble_eq_true rfl) (decide_eq_true hj) rfl
set_option maxRecDepth 100000 in
theorem sL_law_361 {x : Nat} : Go kL_law 361 [a0, a1, (.ref x), a3, a4, a5, a6, a7, a8] st bc bs hp Q ↔ Go kL_law 362 [a0, a1, (.ref x), a3, a4, a5, a6, a7, a8] (.ref x :: st) bc bs hp Q := Go_next (i := .aload_n 2) rfl rfl
set_option maxRecDepth 100000 in
theorem sL_law_362 {x : Nat} : Go kL_law 362 [a0, a1, a2, a3, a4, a5, a6, a7, a8] (.ref x :: st) bc bs hp Q ↔ Rcv hp x 8 ∧ nsum st ≤ 8 ∧ Call kX8_thrown [.ref x] hp (Aft kL_law 365 [a0, a1, a2, a3, a4, a5, a6, a7, a8] st bc bs Q) := Go_invV0 rfl rfl rfl rfl rfl rfl rfl rfl rfl rfl
set_option maxRecDepth 100000 in
theorem sL_law_365 {x : Int32} : Go kL_law 365 [a0, a1, a2, a3, a4, a5, (.int x), a7, a8] st bc bs hp Q ↔ Go kL_law 367 [a0, a1, a2, a3, a4, a5, (.int x), a7, a8] (.int x :: st) bc bs hp Q := Go_next (i := .iload 6) rfl rfl
set_option maxRecDepth 100000 in
theorem sL_law_367 {x y : Int32} : Go kL_law 367 [a0, a1, a2, a3, a4, a5, a6, a7, a8] (.int y :: .int x :: st) bc bs hp Q ↔ (x = y → Go kL_law 372 [a0, a1, a2, a3, a4, a5, a6, a7, a8] st bc bs hp Q) ∧ (¬ x = y → Go kL_law 370 [a0, a1, a2, a3, a4, a5, a6, a7, a8] st bc bs hp Q) := Go_ift (c := x = y) (i := .if_icmp .eq 5) rfl rfl
set_option maxRecDepth 100000 in
theorem sL_law_370 : Go kL_law 370 [a0, a1, a2, a3, a4, a5, a6, a7, a8] st bc bs hp Q ↔ Go kL_law 371 [a0, a1, a2, a3, a4, a5, a6, a7, a8] (.int 0 :: st) bc bs hp Q := Go_next (i := .iconst 0) rfl rfl
set_option maxRecDepth 100000 in
theorem sL_law_371 {x : Int32} : Go kL_law 371 [a0, a1, a2, a3, a4, a5, a6, a7, a8] [.int x] bc bs hp Q ↔ outI kL_law x = true ∧ Q (.inl (some (.int x))) hp := Go_retIf (i := .ireturn) rfl rfl
set_option maxRecDepth 100000 in
theorem sL_law_372 {x : Int32} : Go kL_law 372 [a0, a1, a2, a3, a4, a5, (.int x), a7, a8] st bc bs hp Q ↔ Go kL_law 374 [a0, a1, a2, a3, a4, a5, (.int x), a7, a8] (.int x :: st) bc bs hp Q := Go_next (i := .iload 6) rfl rfl
set_option maxRecDepth 100000 in
theorem sL_law_374 {x : Int32} : Go kL_law 374 [a0, a1, a2, a3, a4, a5, a6, a7, a8] (.int x :: st) bc bs hp Q ↔ (¬ x = 0 → Go kL_law 389 [a0, a1, a2, a3, a4, a5, a6, a7, a8] st bc bs hp Q) ∧ (x = 0 → Go kL_law 377 [a0, a1, a2, a3, a4, a5, a6, a7, a8] st bc bs hp Q) := Go_ifn (c := x = 0) (i := .ifCond .ne 15) rfl rfl
set_option maxRecDepth 100000 in
theorem sL_law_377 {x : Nat} : Go kL_law 377 [a0, a1, a2, (.ref x), a4, a5, a6, a7, a8] st bc bs hp Q ↔ Go kL_law 378 [a0, a1, a2, (.ref x), a4, a5, a6, a7, a8] (.ref x :: st) bc bs hp Q := Go_next (i := .aload_n 3) rfl rfl
set_option maxRecDepth 100000 in
theorem sL_law_378 : Go kL_law 378 [a0, a1, a2, a3, a4, a5, a6, a7, a8] st bc bs hp Q ↔ Go kL_law 379 [a0, a1, a2, a3, a4, a5, a6, a7, a8] (.int 0 :: st) bc bs hp Q := Go_next (i := .iconst 0) rfl rfl
set_option maxRecDepth 100000 in
theorem sL_law_379 {x : Nat} {i : Int32} : Go kL_law 379 [a0, a1, a2, a3, a4, a5, a6, a7, a8] (.int i :: .ref x :: st) bc bs hp Q ↔ RdL hp x i (fun v => Go kL_law 380 [a0, a1, a2, a3, a4, a5, a6, a7, a8] (.long v :: st) bc bs hp Q) := Go_lald rfl
set_option maxRecDepth 100000 in
theorem sL_law_380 {x : Int32} : Go kL_law 380 [a0, a1, a2, a3, a4, a5, a6, (.int x), a8] st bc bs hp Q ↔ Go kL_law 382 [a0, a1, a2, a3, a4, a5, a6, (.int x), a8] (.int x :: st) bc bs hp Q := Go_next (i := .iload 7) rfl rfl
set_option maxRecDepth 100000 in
theorem sL_law_382 {x : Int32} : Go kL_law 382 [a0, a1, a2, a3, a4, a5, a6, a7, a8] (.int x :: st) bc bs hp Q ↔ Go kL_law 383 [a0, a1, a2, a3, a4, a5, a6, a7, a8] (.long x.toInt64 :: st) bc bs hp Q := Go_next (i := .i2l) rfl rfl
set_option maxRecDepth 100000 in
theorem sL_law_383 {x y : Int64} : Go kL_law 383 [a0, a1, a2, a3, a4, a5, a6, a7, a8] (.long y :: .long x :: st) bc bs hp Q ↔ Go kL_law 384 [a0, a1, a2, a3, a4, a5, a6, a7, a8] (.int (lg_cmp x y) :: st) bc bs hp Q := Go_next (i := .lcmp) rfl rfl
set_option maxRecDepth 100000 in
theorem sL_law_384 {x : Int32} : Go kL_law 384 [a0, a1, a2, a3, a4, a5, a6, a7, a8] (.int x :: st) bc bs hp Q ↔ (x = 0 → Go kL_law 389 [a0, a1, a2, a3, a4, a5, a6, a7, a8] st bc bs hp Q) ∧ (¬ x = 0 → Go kL_law 387 [a0, a1, a2, a3, a4, a5, a6, a7, a8] st bc bs hp Q) := Go_ift (c := x = 0) (i := .ifCond .eq 5) rfl rfl
set_option maxRecDepth 100000 in
theorem sL_law_387 : Go kL_law 387 [a0, a1, a2, a3, a4, a5, a6, a7, a8] st bc bs hp Q ↔ Go kL_law 388 [a0, a1, a2, a3, a4, a5, a6, a7, a8] (.int 0 :: st) bc bs hp Q := Go_next (i := .iconst 0) rfl rfl
set_option maxRecDepth 100000 in
theorem sL_law_388 {x : Int32} : Go kL_law 388 [a0, a1, a2, a3, a4, a5, a6, a7, a8] [.int x] bc bs hp Q ↔ outI kL_law x = true ∧ Q (.inl (some (.int x))) hp := Go_retIf (i := .ireturn) rfl rfl
set_option maxRecDepth 100000 in
theorem sL_law_389 : Go kL_law 389 [a0, a1, a2, a3, a4, a5, a6, a7, a8] st bc bs hp Q ↔ Go kL_law 3086 [a0, a1, a2, a3, a4, a5, a6, a7, a8] st bc bs hp Q := Go_next (i := .goto 2697) rfl rfl
set_option maxRecDepth 100000 in
theorem sL_law_392 {x : Nat} : Go kL_law 392 [a0, (.ref x), a2, a3, a4, a5, a6, a7, a8] st bc bs hp Q ↔ Go kL_law 393 [a0, (.ref x), a2, a3, a4, a5, a6, a7, a8] (.ref x :: st) bc bs hp Q := Go_next (i := .aload_n 1) rfl rfl
set_option maxRecDepth 100000 in
theorem sL_law_393 {x : Nat} : Go kL_law 393 [(.ref x), a1, a2, a3, a4, a5, a6, a7, a8] st bc bs hp Q ↔ Go kL_law 394 [(.ref x), a1, a2, a3, a4, a5, a6, a7, a8] (.ref x :: st) bc bs hp Q := Go_next (i := .aload_n 0) rfl rfl
set_option maxRecDepth 100000 in
theorem sL_law_394 {x : Int32} : Go kL_law 394 [a0, a1, a2, a3, a4, (.int x), a6, a7, a8] st bc bs hp Q ↔ Go kL_law 396 [a0, a1, a2, a3, a4, (.int x), a6, a7, a8] (.int x :: st) bc bs hp Q := Go_next (i := .iload 5) rfl rfl
set_option maxRecDepth 100000 in
theorem sL_law_396 : Go kL_law 396 [a0, a1, a2, a3, a4, a5, a6, a7, a8] st bc bs hp Q ↔ Go kL_law 397 [a0, a1, a2, a3, a4, a5, a6, a7, a8] (.int 1 :: st) bc bs hp Q := Go_next (i := .iconst 1) rfl rfl
set_option maxRecDepth 100000 in
theorem sL_law_397 {x y : Int32} : Go kL_law 397 [a0, a1, a2, a3, a4, a5, a6, a7, a8] (.int y :: .int x :: st) bc bs hp Q ↔ Go kL_law 398 [a0, a1, a2, a3, a4, a5, a6, a7, a8] (.int (x + y) :: st) bc bs hp Q := Go_next (i := .iadd) rfl rfl
set_option maxRecDepth 100000 in
theorem sL_law_398 {x : Nat} {i : Int32} : Go kL_law 398 [a0, a1, a2, a3, a4, a5, a6, a7, a8] (.int i :: .ref x :: st) bc bs hp Q ↔ RdA hp x 0 i (fun v => Go kL_law 399 [a0, a1, a2, a3, a4, a5, a6, a7, a8] (.int v :: st) bc bs hp Q) := Go_iald rfl
set_option maxRecDepth 100000 in
theorem sL_law_399 {x : Nat} : Go kL_law 399 [(.ref x), a1, a2, a3, a4, a5, a6, a7, a8] st bc bs hp Q ↔ Go kL_law 400 [(.ref x), a1, a2, a3, a4, a5, a6, a7, a8] (.ref x :: st) bc bs hp Q := Go_next (i := .aload_n 0) rfl rfl
set_option maxRecDepth 100000 in
theorem sL_law_400 {x : Int32} : Go kL_law 400 [a0, a1, a2, a3, a4, (.int x), a6, a7, a8] st bc bs hp Q ↔ Go kL_law 402 [a0, a1, a2, a3, a4, (.int x), a6, a7, a8] (.int x :: st) bc bs hp Q := Go_next (i := .iload 5) rfl rfl
set_option maxRecDepth 100000 in
theorem sL_law_402 : Go kL_law 402 [a0, a1, a2, a3, a4, a5, a6, a7, a8] st bc bs hp Q ↔ Go kL_law 403 [a0, a1, a2, a3, a4, a5, a6, a7, a8] (.int 2 :: st) bc bs hp Q := Go_next (i := .iconst 2) rfl rfl
set_option maxRecDepth 100000 in
theorem sL_law_403 {x y : Int32} : Go kL_law 403 [a0, a1, a2, a3, a4, a5, a6, a7, a8] (.int y :: .int x :: st) bc bs hp Q ↔ Go kL_law 404 [a0, a1, a2, a3, a4, a5, a6, a7, a8] (.int (x + y) :: st) bc bs hp Q := Go_next (i := .iadd) rfl rfl
set_option maxRecDepth 100000 in
theorem sL_law_404 {x : Nat} {i : Int32} : Go kL_law 404 [a0, a1, a2, a3, a4, a5, a6, a7, a8] (.int i :: .ref x :: st) bc bs hp Q ↔ RdA hp x 0 i (fun v => Go kL_law 405 [a0, a1, a2, a3, a4, a5, a6, a7, a8] (.int v :: st) bc bs hp Q) := Go_iald rfl
set_option maxRecDepth 100000 in
theorem sL_law_405 {x : Nat} : Go kL_law 405 [a0, a1, a2, (.ref x), a4, a5, a6, a7, a8] st bc bs hp Q ↔ Go kL_law 406 [a0, a1, a2, (.ref x), a4, a5, a6, a7, a8] (.ref x :: st) bc bs hp Q := Go_next (i := .aload_n 3) rfl rfl
set_option maxRecDepth 100000 in
theorem sL_law_406 {p0 : Nat} {p1 : Int32} {p2 : Int32} {p3 : Nat} : Go kL_law 406 [a0, a1, a2, a3, a4, a5, a6, a7, a8] (.ref p3 :: .int p2 :: .int p1 :: .ref p0 :: st) bc bs hp Q ↔ (3 ≤ bc ∧ 18 ≤ bs ∧ nsum st ≤ 8) ∧ Call kL_addToGroup [.ref p0, .int p1, .int p2, .ref p3] hp (Aft kL_law 409 [a0, a1, a2, a3, a4, a5, a6, a7, a8] st (bc - 3) (bs - 18) Q) := Go_inv (i := .invokestatic 171) rfl rfl rfl rfl rfl rfl
set_option maxRecDepth 100000 in
theorem sL_law_409 {x : Int32} (hj : a5.category = 1) : Go kL_law 409 [a0, a1, a2, a3, a4, a5, a6, a7, a8] (.int x :: st) bc bs hp Q ↔ Go kL_law 411 [a0, a1, a2, a3, a4, a5, (.int x), a7, a8] st bc bs hp Q := Go_sto (i := .istore 6) (j := 6) (v := .int x) rfl rfl (Nat.le_of_ble_eq_true rfl) (decide_eq_true hj) rfl
set_option maxRecDepth 100000 in
theorem sL_law_411 {x : Nat} : Go kL_law 411 [a0, a1, (.ref x), a3, a4, a5, a6, a7, a8] st bc bs hp Q ↔ Go kL_law 412 [a0, a1, (.ref x), a3, a4, a5, a6, a7, a8] (.ref x :: st) bc bs hp Q := Go_next (i := .aload_n 2) rfl rfl
set_option maxRecDepth 100000 in
theorem sL_law_412 {x : Nat} : Go kL_law 412 [(.ref x), a1, a2, a3, a4, a5, a6, a7, a8] st bc bs hp Q ↔ Go kL_law 413 [(.ref x), a1, a2, a3, a4, a5, a6, a7, a8] (.ref x :: st) bc bs hp Q := Go_next (i := .aload_n 0) rfl rfl
set_option maxRecDepth 100000 in
theorem sL_law_413 {x : Int32} : Go kL_law 413 [a0, a1, a2, a3, a4, (.int x), a6, a7, a8] st bc bs hp Q ↔ Go kL_law 415 [a0, a1, a2, a3, a4, (.int x), a6, a7, a8] (.int x :: st) bc bs hp Q := Go_next (i := .iload 5) rfl rfl
set_option maxRecDepth 100000 in
theorem sL_law_415 : Go kL_law 415 [a0, a1, a2, a3, a4, a5, a6, a7, a8] st bc bs hp Q ↔ Go kL_law 416 [a0, a1, a2, a3, a4, a5, a6, a7, a8] (.int 1 :: st) bc bs hp Q := Go_next (i := .iconst 1) rfl rfl
set_option maxRecDepth 100000 in
theorem sL_law_416 {x y : Int32} : Go kL_law 416 [a0, a1, a2, a3, a4, a5, a6, a7, a8] (.int y :: .int x :: st) bc bs hp Q ↔ Go kL_law 417 [a0, a1, a2, a3, a4, a5, a6, a7, a8] (.int (x + y) :: st) bc bs hp Q := Go_next (i := .iadd) rfl rfl
set_option maxRecDepth 100000 in
theorem sL_law_417 {x : Nat} {i : Int32} : Go kL_law 417 [a0, a1, a2, a3, a4, a5, a6, a7, a8] (.int i :: .ref x :: st) bc bs hp Q ↔ RdA hp x 0 i (fun v => Go kL_law 418 [a0, a1, a2, a3, a4, a5, a6, a7, a8] (.int v :: st) bc bs hp Q) := Go_iald rfl
set_option maxRecDepth 100000 in
theorem sL_law_418 {x : Nat} : Go kL_law 418 [(.ref x), a1, a2, a3, a4, a5, a6, a7, a8] st bc bs hp Q ↔ Go kL_law 419 [(.ref x), a1, a2, a3, a4, a5, a6, a7, a8] (.ref x :: st) bc bs hp Q := Go_next (i := .aload_n 0) rfl rfl
set_option maxRecDepth 100000 in
theorem sL_law_419 {x : Int32} : Go kL_law 419 [a0, a1, a2, a3, a4, (.int x), a6, a7, a8] st bc bs hp Q ↔ Go kL_law 421 [a0, a1, a2, a3, a4, (.int x), a6, a7, a8] (.int x :: st) bc bs hp Q := Go_next (i := .iload 5) rfl rfl
set_option maxRecDepth 100000 in
theorem sL_law_421 : Go kL_law 421 [a0, a1, a2, a3, a4, a5, a6, a7, a8] st bc bs hp Q ↔ Go kL_law 422 [a0, a1, a2, a3, a4, a5, a6, a7, a8] (.int 2 :: st) bc bs hp Q := Go_next (i := .iconst 2) rfl rfl
set_option maxRecDepth 100000 in
theorem sL_law_422 {x y : Int32} : Go kL_law 422 [a0, a1, a2, a3, a4, a5, a6, a7, a8] (.int y :: .int x :: st) bc bs hp Q ↔ Go kL_law 423 [a0, a1, a2, a3, a4, a5, a6, a7, a8] (.int (x + y) :: st) bc bs hp Q := Go_next (i := .iadd) rfl rfl
set_option maxRecDepth 100000 in
theorem sL_law_423 {x : Nat} {i : Int32} : Go kL_law 423 [a0, a1, a2, a3, a4, a5, a6, a7, a8] (.int i :: .ref x :: st) bc bs hp Q ↔ RdA hp x 0 i (fun v => Go kL_law 424 [a0, a1, a2, a3, a4, a5, a6, a7, a8] (.int v :: st) bc bs hp Q) := Go_iald rfl
set_option maxRecDepth 100000 in
theorem sL_law_424 {p0 : Int32} {p1 : Int32} {x : Nat} : Go kL_law 424 [a0, a1, a2, a3, a4, a5, a6, a7, a8] (.int p1 :: .int p0 :: .ref x :: st) bc bs hp Q ↔ Rcv hp x 8 ∧ nsum st ≤ 8 ∧ Call kX8_addToGroup [.ref x, .int p0, .int p1] hp (Aft kL_law 427 [a0, a1, a2, a3, a4, a5, a6, a7, a8] st bc bs Q) := Go_invV0 rfl rfl rfl rfl rfl rfl rfl rfl rfl rfl
set_option maxRecDepth 100000 in
theorem sL_law_427 {x : Int32} (hj : a6.category = 1) : Go kL_law 427 [a0, a1, a2, a3, a4, a5, a6, a7, a8] (.int x :: st) bc bs hp Q ↔ Go kL_law 429 [a0, a1, a2, a3, a4, a5, a6, (.int x), a8] st bc bs hp Q := Go_sto (i := .istore 7) (j := 7) (v := .int x) rfl rfl (Nat.le_of_ble_eq_true rfl) (decide_eq_true hj) rfl
set_option maxRecDepth 100000 in
theorem sL_law_429 {x : Nat} : Go kL_law 429 [a0, a1, (.ref x), a3, a4, a5, a6, a7, a8] st bc bs hp Q ↔ Go kL_law 430 [a0, a1, (.ref x), a3, a4, a5, a6, a7, a8] (.ref x :: st) bc bs hp Q := Go_next (i := .aload_n 2) rfl rfl
set_option maxRecDepth 100000 in
theorem sL_law_430 {x : Nat} : Go kL_law 430 [a0, a1, a2, a3, a4, a5, a6, a7, a8] (.ref x :: st) bc bs hp Q ↔ Rcv hp x 8 ∧ nsum st ≤ 8 ∧ Call kX8_thrown [.ref x] hp (Aft kL_law 433 [a0, a1, a2, a3, a4, a5, a6, a7, a8] st bc bs Q) := Go_invV0 rfl rfl rfl rfl rfl rfl rfl rfl rfl rfl
set_option maxRecDepth 100000 in
theorem sL_law_433 {x : Int32} : Go kL_law 433 [a0, a1, a2, a3, a4, a5, (.int x), a7, a8] st bc bs hp Q ↔ Go kL_law 435 [a0, a1, a2, a3, a4, a5, (.int x), a7, a8] (.int x :: st) bc bs hp Q := Go_next (i := .iload 6) rfl rfl
set_option maxRecDepth 100000 in
theorem sL_law_435 {x y : Int32} : Go kL_law 435 [a0, a1, a2, a3, a4, a5, a6, a7, a8] (.int y :: .int x :: st) bc bs hp Q ↔ (x = y → Go kL_law 440 [a0, a1, a2, a3, a4, a5, a6, a7, a8] st bc bs hp Q) ∧ (¬ x = y → Go kL_law 438 [a0, a1, a2, a3, a4, a5, a6, a7, a8] st bc bs hp Q) := Go_ift (c := x = y) (i := .if_icmp .eq 5) rfl rfl
set_option maxRecDepth 100000 in
theorem sL_law_438 : Go kL_law 438 [a0, a1, a2, a3, a4, a5, a6, a7, a8] st bc bs hp Q ↔ Go kL_law 439 [a0, a1, a2, a3, a4, a5, a6, a7, a8] (.int 0 :: st) bc bs hp Q := Go_next (i := .iconst 0) rfl rfl
set_option maxRecDepth 100000 in
theorem sL_law_439 {x : Int32} : Go kL_law 439 [a0, a1, a2, a3, a4, a5, a6, a7, a8] [.int x] bc bs hp Q ↔ outI kL_law x = true ∧ Q (.inl (some (.int x))) hp := Go_retIf (i := .ireturn) rfl rfl
set_option maxRecDepth 100000 in
theorem sL_law_440 {x : Int32} : Go kL_law 440 [a0, a1, a2, a3, a4, a5, (.int x), a7, a8] st bc bs hp Q ↔ Go kL_law 442 [a0, a1, a2, a3, a4, a5, (.int x), a7, a8] (.int x :: st) bc bs hp Q := Go_next (i := .iload 6) rfl rfl
set_option maxRecDepth 100000 in
theorem sL_law_442 {x : Int32} : Go kL_law 442 [a0, a1, a2, a3, a4, a5, a6, a7, a8] (.int x :: st) bc bs hp Q ↔ (¬ x = 0 → Go kL_law 457 [a0, a1, a2, a3, a4, a5, a6, a7, a8] st bc bs hp Q) ∧ (x = 0 → Go kL_law 445 [a0, a1, a2, a3, a4, a5, a6, a7, a8] st bc bs hp Q) := Go_ifn (c := x = 0) (i := .ifCond .ne 15) rfl rfl
set_option maxRecDepth 100000 in
theorem sL_law_445 {x : Nat} : Go kL_law 445 [a0, a1, a2, (.ref x), a4, a5, a6, a7, a8] st bc bs hp Q ↔ Go kL_law 446 [a0, a1, a2, (.ref x), a4, a5, a6, a7, a8] (.ref x :: st) bc bs hp Q := Go_next (i := .aload_n 3) rfl rfl
set_option maxRecDepth 100000 in
theorem sL_law_446 : Go kL_law 446 [a0, a1, a2, a3, a4, a5, a6, a7, a8] st bc bs hp Q ↔ Go kL_law 447 [a0, a1, a2, a3, a4, a5, a6, a7, a8] (.int 0 :: st) bc bs hp Q := Go_next (i := .iconst 0) rfl rfl
set_option maxRecDepth 100000 in
theorem sL_law_447 {x : Nat} {i : Int32} : Go kL_law 447 [a0, a1, a2, a3, a4, a5, a6, a7, a8] (.int i :: .ref x :: st) bc bs hp Q ↔ RdL hp x i (fun v => Go kL_law 448 [a0, a1, a2, a3, a4, a5, a6, a7, a8] (.long v :: st) bc bs hp Q) := Go_lald rfl
set_option maxRecDepth 100000 in
theorem sL_law_448 {x : Int32} : Go kL_law 448 [a0, a1, a2, a3, a4, a5, a6, (.int x), a8] st bc bs hp Q ↔ Go kL_law 450 [a0, a1, a2, a3, a4, a5, a6, (.int x), a8] (.int x :: st) bc bs hp Q := Go_next (i := .iload 7) rfl rfl
set_option maxRecDepth 100000 in
theorem sL_law_450 {x : Int32} : Go kL_law 450 [a0, a1, a2, a3, a4, a5, a6, a7, a8] (.int x :: st) bc bs hp Q ↔ Go kL_law 451 [a0, a1, a2, a3, a4, a5, a6, a7, a8] (.long x.toInt64 :: st) bc bs hp Q := Go_next (i := .i2l) rfl rfl
set_option maxRecDepth 100000 in
theorem sL_law_451 {x y : Int64} : Go kL_law 451 [a0, a1, a2, a3, a4, a5, a6, a7, a8] (.long y :: .long x :: st) bc bs hp Q ↔ Go kL_law 452 [a0, a1, a2, a3, a4, a5, a6, a7, a8] (.int (lg_cmp x y) :: st) bc bs hp Q := Go_next (i := .lcmp) rfl rfl
set_option maxRecDepth 100000 in
theorem sL_law_452 {x : Int32} : Go kL_law 452 [a0, a1, a2, a3, a4, a5, a6, a7, a8] (.int x :: st) bc bs hp Q ↔ (x = 0 → Go kL_law 457 [a0, a1, a2, a3, a4, a5, a6, a7, a8] st bc bs hp Q) ∧ (¬ x = 0 → Go kL_law 455 [a0, a1, a2, a3, a4, a5, a6, a7, a8] st bc bs hp Q) := Go_ift (c := x = 0) (i := .ifCond .eq 5) rfl rfl
set_option maxRecDepth 100000 in
theorem sL_law_455 : Go kL_law 455 [a0, a1, a2, a3, a4, a5, a6, a7, a8] st bc bs hp Q ↔ Go kL_law 456 [a0, a1, a2, a3, a4, a5, a6, a7, a8] (.int 0 :: st) bc bs hp Q := Go_next (i := .iconst 0) rfl rfl
set_option maxRecDepth 100000 in
theorem sL_law_456 {x : Int32} : Go kL_law 456 [a0, a1, a2, a3, a4, a5, a6, a7, a8] [.int x] bc bs hp Q ↔ outI kL_law x = true ∧ Q (.inl (some (.int x))) hp := Go_retIf (i := .ireturn) rfl rfl
set_option maxRecDepth 100000 in
theorem sL_law_457 : Go kL_law 457 [a0, a1, a2, a3, a4, a5, a6, a7, a8] st bc bs hp Q ↔ Go kL_law 3086 [a0, a1, a2, a3, a4, a5, a6, a7, a8] st bc bs hp Q := Go_next (i := .goto 2629) rfl rfl
set_option maxRecDepth 100000 in
theorem sL_law_460 {x : Nat} : Go kL_law 460 [a0, (.ref x), a2, a3, a4, a5, a6, a7, a8] st bc bs hp Q ↔ Go kL_law 461 [a0, (.ref x), a2, a3, a4, a5, a6, a7, a8] (.ref x :: st) bc bs hp Q := Go_next (i := .aload_n 1) rfl rfl
set_option maxRecDepth 100000 in
theorem sL_law_461 {x : Nat} : Go kL_law 461 [(.ref x), a1, a2, a3, a4, a5, a6, a7, a8] st bc bs hp Q ↔ Go kL_law 462 [(.ref x), a1, a2, a3, a4, a5, a6, a7, a8] (.ref x :: st) bc bs hp Q := Go_next (i := .aload_n 0) rfl rfl
set_option maxRecDepth 100000 in
theorem sL_law_462 {x : Int32} : Go kL_law 462 [a0, a1, a2, a3, a4, (.int x), a6, a7, a8] st bc bs hp Q ↔ Go kL_law 464 [a0, a1, a2, a3, a4, (.int x), a6, a7, a8] (.int x :: st) bc bs hp Q := Go_next (i := .iload 5) rfl rfl
set_option maxRecDepth 100000 in
theorem sL_law_464 : Go kL_law 464 [a0, a1, a2, a3, a4, a5, a6, a7, a8] st bc bs hp Q ↔ Go kL_law 465 [a0, a1, a2, a3, a4, a5, a6, a7, a8] (.int 1 :: st) bc bs hp Q := Go_next (i := .iconst 1) rfl rfl
set_option maxRecDepth 100000 in
theorem sL_law_465 {x y : Int32} : Go kL_law 465 [a0, a1, a2, a3, a4, a5, a6, a7, a8] (.int y :: .int x :: st) bc bs hp Q ↔ Go kL_law 466 [a0, a1, a2, a3, a4, a5, a6, a7, a8] (.int (x + y) :: st) bc bs hp Q := Go_next (i := .iadd) rfl rfl
set_option maxRecDepth 100000 in
theorem sL_law_466 {x : Nat} {i : Int32} : Go kL_law 466 [a0, a1, a2, a3, a4, a5, a6, a7, a8] (.int i :: .ref x :: st) bc bs hp Q ↔ RdA hp x 0 i (fun v => Go kL_law 467 [a0, a1, a2, a3, a4, a5, a6, a7, a8] (.int v :: st) bc bs hp Q) := Go_iald rfl
set_option maxRecDepth 100000 in
theorem sL_law_467 {x : Nat} : Go kL_law 467 [(.ref x), a1, a2, a3, a4, a5, a6, a7, a8] st bc bs hp Q ↔ Go kL_law 468 [(.ref x), a1, a2, a3, a4, a5, a6, a7, a8] (.ref x :: st) bc bs hp Q := Go_next (i := .aload_n 0) rfl rfl
set_option maxRecDepth 100000 in
theorem sL_law_468 {x : Int32} : Go kL_law 468 [a0, a1, a2, a3, a4, (.int x), a6, a7, a8] st bc bs hp Q ↔ Go kL_law 470 [a0, a1, a2, a3, a4, (.int x), a6, a7, a8] (.int x :: st) bc bs hp Q := Go_next (i := .iload 5) rfl rfl
set_option maxRecDepth 100000 in
theorem sL_law_470 : Go kL_law 470 [a0, a1, a2, a3, a4, a5, a6, a7, a8] st bc bs hp Q ↔ Go kL_law 471 [a0, a1, a2, a3, a4, a5, a6, a7, a8] (.int 2 :: st) bc bs hp Q := Go_next (i := .iconst 2) rfl rfl
set_option maxRecDepth 100000 in
theorem sL_law_471 {x y : Int32} : Go kL_law 471 [a0, a1, a2, a3, a4, a5, a6, a7, a8] (.int y :: .int x :: st) bc bs hp Q ↔ Go kL_law 472 [a0, a1, a2, a3, a4, a5, a6, a7, a8] (.int (x + y) :: st) bc bs hp Q := Go_next (i := .iadd) rfl rfl
set_option maxRecDepth 100000 in
theorem sL_law_472 {x : Nat} {i : Int32} : Go kL_law 472 [a0, a1, a2, a3, a4, a5, a6, a7, a8] (.int i :: .ref x :: st) bc bs hp Q ↔ RdA hp x 0 i (fun v => Go kL_law 473 [a0, a1, a2, a3, a4, a5, a6, a7, a8] (.int v :: st) bc bs hp Q) := Go_iald rfl
set_option maxRecDepth 100000 in
theorem sL_law_473 {x : Nat} : Go kL_law 473 [a0, a1, a2, (.ref x), a4, a5, a6, a7, a8] st bc bs hp Q ↔ Go kL_law 474 [a0, a1, a2, (.ref x), a4, a5, a6, a7, a8] (.ref x :: st) bc bs hp Q := Go_next (i := .aload_n 3) rfl rfl
set_option maxRecDepth 100000 in
theorem sL_law_474 {p0 : Nat} {p1 : Int32} {p2 : Int32} {p3 : Nat} : Go kL_law 474 [a0, a1, a2, a3, a4, a5, a6, a7, a8] (.ref p3 :: .int p2 :: .int p1 :: .ref p0 :: st) bc bs hp Q ↔ (3 ≤ bc ∧ 18 ≤ bs ∧ nsum st ≤ 8) ∧ Call kL_addPalette [.ref p0, .int p1, .int p2, .ref p3] hp (Aft kL_law 477 [a0, a1, a2, a3, a4, a5, a6, a7, a8] st (bc - 3) (bs - 18) Q) := Go_inv (i := .invokestatic 174) rfl rfl rfl rfl rfl rfl
set_option maxRecDepth 100000 in
theorem sL_law_477 {x : Int32} (hj : a5.category = 1) : Go kL_law 477 [a0, a1, a2, a3, a4, a5, a6, a7, a8] (.int x :: st) bc bs hp Q ↔ Go kL_law 479 [a0, a1, a2, a3, a4, a5, (.int x), a7, a8] st bc bs hp Q := Go_sto (i := .istore 6) (j := 6) (v := .int x) rfl rfl (Nat.le_of_ble_eq_true rfl) (decide_eq_true hj) rfl
set_option maxRecDepth 100000 in
theorem sL_law_479 {x : Nat} : Go kL_law 479 [a0, a1, (.ref x), a3, a4, a5, a6, a7, a8] st bc bs hp Q ↔ Go kL_law 480 [a0, a1, (.ref x), a3, a4, a5, a6, a7, a8] (.ref x :: st) bc bs hp Q := Go_next (i := .aload_n 2) rfl rfl
set_option maxRecDepth 100000 in
theorem sL_law_480 {x : Nat} : Go kL_law 480 [(.ref x), a1, a2, a3, a4, a5, a6, a7, a8] st bc bs hp Q ↔ Go kL_law 481 [(.ref x), a1, a2, a3, a4, a5, a6, a7, a8] (.ref x :: st) bc bs hp Q := Go_next (i := .aload_n 0) rfl rfl
set_option maxRecDepth 100000 in
theorem sL_law_481 {x : Int32} : Go kL_law 481 [a0, a1, a2, a3, a4, (.int x), a6, a7, a8] st bc bs hp Q ↔ Go kL_law 483 [a0, a1, a2, a3, a4, (.int x), a6, a7, a8] (.int x :: st) bc bs hp Q := Go_next (i := .iload 5) rfl rfl
set_option maxRecDepth 100000 in
theorem sL_law_483 : Go kL_law 483 [a0, a1, a2, a3, a4, a5, a6, a7, a8] st bc bs hp Q ↔ Go kL_law 484 [a0, a1, a2, a3, a4, a5, a6, a7, a8] (.int 1 :: st) bc bs hp Q := Go_next (i := .iconst 1) rfl rfl
set_option maxRecDepth 100000 in
theorem sL_law_484 {x y : Int32} : Go kL_law 484 [a0, a1, a2, a3, a4, a5, a6, a7, a8] (.int y :: .int x :: st) bc bs hp Q ↔ Go kL_law 485 [a0, a1, a2, a3, a4, a5, a6, a7, a8] (.int (x + y) :: st) bc bs hp Q := Go_next (i := .iadd) rfl rfl
set_option maxRecDepth 100000 in
theorem sL_law_485 {x : Nat} {i : Int32} : Go kL_law 485 [a0, a1, a2, a3, a4, a5, a6, a7, a8] (.int i :: .ref x :: st) bc bs hp Q ↔ RdA hp x 0 i (fun v => Go kL_law 486 [a0, a1, a2, a3, a4, a5, a6, a7, a8] (.int v :: st) bc bs hp Q) := Go_iald rfl
set_option maxRecDepth 100000 in
theorem sL_law_486 {x : Nat} : Go kL_law 486 [(.ref x), a1, a2, a3, a4, a5, a6, a7, a8] st bc bs hp Q ↔ Go kL_law 487 [(.ref x), a1, a2, a3, a4, a5, a6, a7, a8] (.ref x :: st) bc bs hp Q := Go_next (i := .aload_n 0) rfl rfl
set_option maxRecDepth 100000 in
theorem sL_law_487 {x : Int32} : Go kL_law 487 [a0, a1, a2, a3, a4, (.int x), a6, a7, a8] st bc bs hp Q ↔ Go kL_law 489 [a0, a1, a2, a3, a4, (.int x), a6, a7, a8] (.int x :: st) bc bs hp Q := Go_next (i := .iload 5) rfl rfl
set_option maxRecDepth 100000 in
theorem sL_law_489 : Go kL_law 489 [a0, a1, a2, a3, a4, a5, a6, a7, a8] st bc bs hp Q ↔ Go kL_law 490 [a0, a1, a2, a3, a4, a5, a6, a7, a8] (.int 2 :: st) bc bs hp Q := Go_next (i := .iconst 2) rfl rfl
set_option maxRecDepth 100000 in
theorem sL_law_490 {x y : Int32} : Go kL_law 490 [a0, a1, a2, a3, a4, a5, a6, a7, a8] (.int y :: .int x :: st) bc bs hp Q ↔ Go kL_law 491 [a0, a1, a2, a3, a4, a5, a6, a7, a8] (.int (x + y) :: st) bc bs hp Q := Go_next (i := .iadd) rfl rfl
set_option maxRecDepth 100000 in
theorem sL_law_491 {x : Nat} {i : Int32} : Go kL_law 491 [a0, a1, a2, a3, a4, a5, a6, a7, a8] (.int i :: .ref x :: st) bc bs hp Q ↔ RdA hp x 0 i (fun v => Go kL_law 492 [a0, a1, a2, a3, a4, a5, a6, a7, a8] (.int v :: st) bc bs hp Q) := Go_iald rfl
set_option maxRecDepth 100000 in
theorem sL_law_492 {p0 : Int32} {p1 : Int32} {x : Nat} : Go kL_law 492 [a0, a1, a2, a3, a4, a5, a6, a7, a8] (.int p1 :: .int p0 :: .ref x :: st) bc bs hp Q ↔ Rcv hp x 8 ∧ nsum st ≤ 8 ∧ Call kX8_addPalette [.ref x, .int p0, .int p1] hp (Aft kL_law 495 [a0, a1, a2, a3, a4, a5, a6, a7, a8] st bc bs Q) := Go_invV0 rfl rfl rfl rfl rfl rfl rfl rfl rfl rfl
set_option maxRecDepth 100000 in
theorem sL_law_495 {x : Int32} (hj : a6.category = 1) : Go kL_law 495 [a0, a1, a2, a3, a4, a5, a6, a7, a8] (.int x :: st) bc bs hp Q ↔ Go kL_law 497 [a0, a1, a2, a3, a4, a5, a6, (.int x), a8] st bc bs hp Q := Go_sto (i := .istore 7) (j := 7) (v := .int x) rfl rfl (Nat.le_of_ble_eq_true rfl) (decide_eq_true hj) rfl
set_option maxRecDepth 100000 in
theorem sL_law_497 {x : Nat} : Go kL_law 497 [a0, a1, (.ref x), a3, a4, a5, a6, a7, a8] st bc bs hp Q ↔ Go kL_law 498 [a0, a1, (.ref x), a3, a4, a5, a6, a7, a8] (.ref x :: st) bc bs hp Q := Go_next (i := .aload_n 2) rfl rfl
set_option maxRecDepth 100000 in
theorem sL_law_498 {x : Nat} : Go kL_law 498 [a0, a1, a2, a3, a4, a5, a6, a7, a8] (.ref x :: st) bc bs hp Q ↔ Rcv hp x 8 ∧ nsum st ≤ 8 ∧ Call kX8_thrown [.ref x] hp (Aft kL_law 501 [a0, a1, a2, a3, a4, a5, a6, a7, a8] st bc bs Q) := Go_invV0 rfl rfl rfl rfl rfl rfl rfl rfl rfl rfl
set_option maxRecDepth 100000 in
theorem sL_law_501 {x : Int32} : Go kL_law 501 [a0, a1, a2, a3, a4, a5, (.int x), a7, a8] st bc bs hp Q ↔ Go kL_law 503 [a0, a1, a2, a3, a4, a5, (.int x), a7, a8] (.int x :: st) bc bs hp Q := Go_next (i := .iload 6) rfl rfl
set_option maxRecDepth 100000 in
theorem sL_law_503 {x y : Int32} : Go kL_law 503 [a0, a1, a2, a3, a4, a5, a6, a7, a8] (.int y :: .int x :: st) bc bs hp Q ↔ (x = y → Go kL_law 508 [a0, a1, a2, a3, a4, a5, a6, a7, a8] st bc bs hp Q) ∧ (¬ x = y → Go kL_law 506 [a0, a1, a2, a3, a4, a5, a6, a7, a8] st bc bs hp Q) := Go_ift (c := x = y) (i := .if_icmp .eq 5) rfl rfl
set_option maxRecDepth 100000 in
theorem sL_law_506 : Go kL_law 506 [a0, a1, a2, a3, a4, a5, a6, a7, a8] st bc bs hp Q ↔ Go kL_law 507 [a0, a1, a2, a3, a4, a5, a6, a7, a8] (.int 0 :: st) bc bs hp Q := Go_next (i := .iconst 0) rfl rfl
set_option maxRecDepth 100000 in
theorem sL_law_507 {x : Int32} : Go kL_law 507 [a0, a1, a2, a3, a4, a5, a6, a7, a8] [.int x] bc bs hp Q ↔ outI kL_law x = true ∧ Q (.inl (some (.int x))) hp := Go_retIf (i := .ireturn) rfl rfl
set_option maxRecDepth 100000 in
theorem sL_law_508 {x : Int32} : Go kL_law 508 [a0, a1, a2, a3, a4, a5, (.int x), a7, a8] st bc bs hp Q ↔ Go kL_law 510 [a0, a1, a2, a3, a4, a5, (.int x), a7, a8] (.int x :: st) bc bs hp Q := Go_next (i := .iload 6) rfl rfl
set_option maxRecDepth 100000 in
theorem sL_law_510 {x : Int32} : Go kL_law 510 [a0, a1, a2, a3, a4, a5, a6, a7, a8] (.int x :: st) bc bs hp Q ↔ (¬ x = 0 → Go kL_law 525 [a0, a1, a2, a3, a4, a5, a6, a7, a8] st bc bs hp Q) ∧ (x = 0 → Go kL_law 513 [a0, a1, a2, a3, a4, a5, a6, a7, a8] st bc bs hp Q) := Go_ifn (c := x = 0) (i := .ifCond .ne 15) rfl rfl
set_option maxRecDepth 100000 in
theorem sL_law_513 {x : Nat} : Go kL_law 513 [a0, a1, a2, (.ref x), a4, a5, a6, a7, a8] st bc bs hp Q ↔ Go kL_law 514 [a0, a1, a2, (.ref x), a4, a5, a6, a7, a8] (.ref x :: st) bc bs hp Q := Go_next (i := .aload_n 3) rfl rfl
set_option maxRecDepth 100000 in
theorem sL_law_514 : Go kL_law 514 [a0, a1, a2, a3, a4, a5, a6, a7, a8] st bc bs hp Q ↔ Go kL_law 515 [a0, a1, a2, a3, a4, a5, a6, a7, a8] (.int 0 :: st) bc bs hp Q := Go_next (i := .iconst 0) rfl rfl
set_option maxRecDepth 100000 in
theorem sL_law_515 {x : Nat} {i : Int32} : Go kL_law 515 [a0, a1, a2, a3, a4, a5, a6, a7, a8] (.int i :: .ref x :: st) bc bs hp Q ↔ RdL hp x i (fun v => Go kL_law 516 [a0, a1, a2, a3, a4, a5, a6, a7, a8] (.long v :: st) bc bs hp Q) := Go_lald rfl
set_option maxRecDepth 100000 in
theorem sL_law_516 {x : Int32} : Go kL_law 516 [a0, a1, a2, a3, a4, a5, a6, (.int x), a8] st bc bs hp Q ↔ Go kL_law 518 [a0, a1, a2, a3, a4, a5, a6, (.int x), a8] (.int x :: st) bc bs hp Q := Go_next (i := .iload 7) rfl rfl
set_option maxRecDepth 100000 in
theorem sL_law_518 {x : Int32} : Go kL_law 518 [a0, a1, a2, a3, a4, a5, a6, a7, a8] (.int x :: st) bc bs hp Q ↔ Go kL_law 519 [a0, a1, a2, a3, a4, a5, a6, a7, a8] (.long x.toInt64 :: st) bc bs hp Q := Go_next (i := .i2l) rfl rfl
set_option maxRecDepth 100000 in
theorem sL_law_519 {x y : Int64} : Go kL_law 519 [a0, a1, a2, a3, a4, a5, a6, a7, a8] (.long y :: .long x :: st) bc bs hp Q ↔ Go kL_law 520 [a0, a1, a2, a3, a4, a5, a6, a7, a8] (.int (lg_cmp x y) :: st) bc bs hp Q := Go_next (i := .lcmp) rfl rfl
set_option maxRecDepth 100000 in
theorem sL_law_520 {x : Int32} : Go kL_law 520 [a0, a1, a2, a3, a4, a5, a6, a7, a8] (.int x :: st) bc bs hp Q ↔ (x = 0 → Go kL_law 525 [a0, a1, a2, a3, a4, a5, a6, a7, a8] st bc bs hp Q) ∧ (¬ x = 0 → Go kL_law 523 [a0, a1, a2, a3, a4, a5, a6, a7, a8] st bc bs hp Q) := Go_ift (c := x = 0) (i := .ifCond .eq 5) rfl rfl
set_option maxRecDepth 100000 in
theorem sL_law_523 : Go kL_law 523 [a0, a1, a2, a3, a4, a5, a6, a7, a8] st bc bs hp Q ↔ Go kL_law 524 [a0, a1, a2, a3, a4, a5, a6, a7, a8] (.int 0 :: st) bc bs hp Q := Go_next (i := .iconst 0) rfl rfl
set_option maxRecDepth 100000 in
theorem sL_law_524 {x : Int32} : Go kL_law 524 [a0, a1, a2, a3, a4, a5, a6, a7, a8] [.int x] bc bs hp Q ↔ outI kL_law x = true ∧ Q (.inl (some (.int x))) hp := Go_retIf (i := .ireturn) rfl rfl
set_option maxRecDepth 100000 in
theorem sL_law_525 : Go kL_law 525 [a0, a1, a2, a3, a4, a5, a6, a7, a8] st bc bs hp Q ↔ Go kL_law 3086 [a0, a1, a2, a3, a4, a5, a6, a7, a8] st bc bs hp Q := Go_next (i := .goto 2561) rfl rfl
set_option maxRecDepth 100000 in
theorem sL_law_528 {x : Nat} : Go kL_law 528 [a0, (.ref x), a2, a3, a4, a5, a6, a7, a8] st bc bs hp Q ↔ Go kL_law 529 [a0, (.ref x), a2, a3, a4, a5, a6, a7, a8] (.ref x :: st) bc bs hp Q := Go_next (i := .aload_n 1) rfl rfl
set_option maxRecDepth 100000 in
theorem sL_law_529 {x : Nat} : Go kL_law 529 [(.ref x), a1, a2, a3, a4, a5, a6, a7, a8] st bc bs hp Q ↔ Go kL_law 530 [(.ref x), a1, a2, a3, a4, a5, a6, a7, a8] (.ref x :: st) bc bs hp Q := Go_next (i := .aload_n 0) rfl rfl
set_option maxRecDepth 100000 in
theorem sL_law_530 {x : Int32} : Go kL_law 530 [a0, a1, a2, a3, a4, (.int x), a6, a7, a8] st bc bs hp Q ↔ Go kL_law 532 [a0, a1, a2, a3, a4, (.int x), a6, a7, a8] (.int x :: st) bc bs hp Q := Go_next (i := .iload 5) rfl rfl
set_option maxRecDepth 100000 in
theorem sL_law_532 : Go kL_law 532 [a0, a1, a2, a3, a4, a5, a6, a7, a8] st bc bs hp Q ↔ Go kL_law 533 [a0, a1, a2, a3, a4, a5, a6, a7, a8] (.int 1 :: st) bc bs hp Q := Go_next (i := .iconst 1) rfl rfl
set_option maxRecDepth 100000 in
theorem sL_law_533 {x y : Int32} : Go kL_law 533 [a0, a1, a2, a3, a4, a5, a6, a7, a8] (.int y :: .int x :: st) bc bs hp Q ↔ Go kL_law 534 [a0, a1, a2, a3, a4, a5, a6, a7, a8] (.int (x + y) :: st) bc bs hp Q := Go_next (i := .iadd) rfl rfl
set_option maxRecDepth 100000 in
theorem sL_law_534 {x : Nat} {i : Int32} : Go kL_law 534 [a0, a1, a2, a3, a4, a5, a6, a7, a8] (.int i :: .ref x :: st) bc bs hp Q ↔ RdA hp x 0 i (fun v => Go kL_law 535 [a0, a1, a2, a3, a4, a5, a6, a7, a8] (.int v :: st) bc bs hp Q) := Go_iald rfl
set_option maxRecDepth 100000 in
theorem sL_law_535 {x : Nat} : Go kL_law 535 [(.ref x), a1, a2, a3, a4, a5, a6, a7, a8] st bc bs hp Q ↔ Go kL_law 536 [(.ref x), a1, a2, a3, a4, a5, a6, a7, a8] (.ref x :: st) bc bs hp Q := Go_next (i := .aload_n 0) rfl rfl
set_option maxRecDepth 100000 in
theorem sL_law_536 {x : Int32} : Go kL_law 536 [a0, a1, a2, a3, a4, (.int x), a6, a7, a8] st bc bs hp Q ↔ Go kL_law 538 [a0, a1, a2, a3, a4, (.int x), a6, a7, a8] (.int x :: st) bc bs hp Q := Go_next (i := .iload 5) rfl rfl
set_option maxRecDepth 100000 in
theorem sL_law_538 : Go kL_law 538 [a0, a1, a2, a3, a4, a5, a6, a7, a8] st bc bs hp Q ↔ Go kL_law 539 [a0, a1, a2, a3, a4, a5, a6, a7, a8] (.int 2 :: st) bc bs hp Q := Go_next (i := .iconst 2) rfl rfl
set_option maxRecDepth 100000 in
theorem sL_law_539 {x y : Int32} : Go kL_law 539 [a0, a1, a2, a3, a4, a5, a6, a7, a8] (.int y :: .int x :: st) bc bs hp Q ↔ Go kL_law 540 [a0, a1, a2, a3, a4, a5, a6, a7, a8] (.int (x + y) :: st) bc bs hp Q := Go_next (i := .iadd) rfl rfl
set_option maxRecDepth 100000 in
theorem sL_law_540 {x : Nat} {i : Int32} : Go kL_law 540 [a0, a1, a2, a3, a4, a5, a6, a7, a8] (.int i :: .ref x :: st) bc bs hp Q ↔ RdA hp x 0 i (fun v => Go kL_law 541 [a0, a1, a2, a3, a4, a5, a6, a7, a8] (.int v :: st) bc bs hp Q) := Go_iald rfl
set_option maxRecDepth 100000 in
theorem sL_law_541 {x : Nat} : Go kL_law 541 [a0, a1, a2, (.ref x), a4, a5, a6, a7, a8] st bc bs hp Q ↔ Go kL_law 542 [a0, a1, a2, (.ref x), a4, a5, a6, a7, a8] (.ref x :: st) bc bs hp Q := Go_next (i := .aload_n 3) rfl rfl
set_option maxRecDepth 100000 in
theorem sL_law_542 {p0 : Nat} {p1 : Int32} {p2 : Int32} {p3 : Nat} : Go kL_law 542 [a0, a1, a2, a3, a4, a5, a6, a7, a8] (.ref p3 :: .int p2 :: .int p1 :: .ref p0 :: st) bc bs hp Q ↔ (2 ≤ bc ∧ 12 ≤ bs ∧ nsum st ≤ 8) ∧ Call kL_setPalette [.ref p0, .int p1, .int p2, .ref p3] hp (Aft kL_law 545 [a0, a1, a2, a3, a4, a5, a6, a7, a8] st (bc - 2) (bs - 12) Q) := Go_inv (i := .invokestatic 177) rfl rfl rfl rfl rfl rfl
set_option maxRecDepth 100000 in
theorem sL_law_545 {x : Int32} (hj : a5.category = 1) : Go kL_law 545 [a0, a1, a2, a3, a4, a5, a6, a7, a8] (.int x :: st) bc bs hp Q ↔ Go kL_law 547 [a0, a1, a2, a3, a4, a5, (.int x), a7, a8] st bc bs hp Q := Go_sto (i := .istore 6) (j := 6) (v := .int x) rfl rfl (Nat.le_of_ble_eq_true rfl) (decide_eq_true hj) rfl
set_option maxRecDepth 100000 in
theorem sL_law_547 {x : Nat} : Go kL_law 547 [a0, a1, (.ref x), a3, a4, a5, a6, a7, a8] st bc bs hp Q ↔ Go kL_law 548 [a0, a1, (.ref x), a3, a4, a5, a6, a7, a8] (.ref x :: st) bc bs hp Q := Go_next (i := .aload_n 2) rfl rfl
set_option maxRecDepth 100000 in
theorem sL_law_548 {x : Nat} : Go kL_law 548 [(.ref x), a1, a2, a3, a4, a5, a6, a7, a8] st bc bs hp Q ↔ Go kL_law 549 [(.ref x), a1, a2, a3, a4, a5, a6, a7, a8] (.ref x :: st) bc bs hp Q := Go_next (i := .aload_n 0) rfl rfl
set_option maxRecDepth 100000 in
theorem sL_law_549 {x : Int32} : Go kL_law 549 [a0, a1, a2, a3, a4, (.int x), a6, a7, a8] st bc bs hp Q ↔ Go kL_law 551 [a0, a1, a2, a3, a4, (.int x), a6, a7, a8] (.int x :: st) bc bs hp Q := Go_next (i := .iload 5) rfl rfl
set_option maxRecDepth 100000 in
theorem sL_law_551 : Go kL_law 551 [a0, a1, a2, a3, a4, a5, a6, a7, a8] st bc bs hp Q ↔ Go kL_law 552 [a0, a1, a2, a3, a4, a5, a6, a7, a8] (.int 1 :: st) bc bs hp Q := Go_next (i := .iconst 1) rfl rfl
set_option maxRecDepth 100000 in
theorem sL_law_552 {x y : Int32} : Go kL_law 552 [a0, a1, a2, a3, a4, a5, a6, a7, a8] (.int y :: .int x :: st) bc bs hp Q ↔ Go kL_law 553 [a0, a1, a2, a3, a4, a5, a6, a7, a8] (.int (x + y) :: st) bc bs hp Q := Go_next (i := .iadd) rfl rfl
set_option maxRecDepth 100000 in
theorem sL_law_553 {x : Nat} {i : Int32} : Go kL_law 553 [a0, a1, a2, a3, a4, a5, a6, a7, a8] (.int i :: .ref x :: st) bc bs hp Q ↔ RdA hp x 0 i (fun v => Go kL_law 554 [a0, a1, a2, a3, a4, a5, a6, a7, a8] (.int v :: st) bc bs hp Q) := Go_iald rfl
set_option maxRecDepth 100000 in
theorem sL_law_554 {x : Nat} : Go kL_law 554 [(.ref x), a1, a2, a3, a4, a5, a6, a7, a8] st bc bs hp Q ↔ Go kL_law 555 [(.ref x), a1, a2, a3, a4, a5, a6, a7, a8] (.ref x :: st) bc bs hp Q := Go_next (i := .aload_n 0) rfl rfl
set_option maxRecDepth 100000 in
theorem sL_law_555 {x : Int32} : Go kL_law 555 [a0, a1, a2, a3, a4, (.int x), a6, a7, a8] st bc bs hp Q ↔ Go kL_law 557 [a0, a1, a2, a3, a4, (.int x), a6, a7, a8] (.int x :: st) bc bs hp Q := Go_next (i := .iload 5) rfl rfl
set_option maxRecDepth 100000 in
theorem sL_law_557 : Go kL_law 557 [a0, a1, a2, a3, a4, a5, a6, a7, a8] st bc bs hp Q ↔ Go kL_law 558 [a0, a1, a2, a3, a4, a5, a6, a7, a8] (.int 2 :: st) bc bs hp Q := Go_next (i := .iconst 2) rfl rfl
set_option maxRecDepth 100000 in
theorem sL_law_558 {x y : Int32} : Go kL_law 558 [a0, a1, a2, a3, a4, a5, a6, a7, a8] (.int y :: .int x :: st) bc bs hp Q ↔ Go kL_law 559 [a0, a1, a2, a3, a4, a5, a6, a7, a8] (.int (x + y) :: st) bc bs hp Q := Go_next (i := .iadd) rfl rfl
set_option maxRecDepth 100000 in
theorem sL_law_559 {x : Nat} {i : Int32} : Go kL_law 559 [a0, a1, a2, a3, a4, a5, a6, a7, a8] (.int i :: .ref x :: st) bc bs hp Q ↔ RdA hp x 0 i (fun v => Go kL_law 560 [a0, a1, a2, a3, a4, a5, a6, a7, a8] (.int v :: st) bc bs hp Q) := Go_iald rfl
set_option maxRecDepth 100000 in
theorem sL_law_560 {p0 : Int32} {p1 : Int32} {x : Nat} : Go kL_law 560 [a0, a1, a2, a3, a4, a5, a6, a7, a8] (.int p1 :: .int p0 :: .ref x :: st) bc bs hp Q ↔ Rcv hp x 8 ∧ nsum st ≤ 8 ∧ Call kX8_setPalette [.ref x, .int p0, .int p1] hp (Aft kL_law 563 [a0, a1, a2, a3, a4, a5, a6, a7, a8] st bc bs Q) := Go_invV0 rfl rfl rfl rfl rfl rfl rfl rfl rfl rfl
set_option maxRecDepth 100000 in
theorem sL_law_563 {x : Int32} (hj : a6.category = 1) : Go kL_law 563 [a0, a1, a2, a3, a4, a5, a6, a7, a8] (.int x :: st) bc bs hp Q ↔ Go kL_law 565 [a0, a1, a2, a3, a4, a5, a6, (.int x), a8] st bc bs hp Q := Go_sto (i := .istore 7) (j := 7) (v := .int x) rfl rfl (Nat.le_of_ble_eq_true rfl) (decide_eq_true hj) rfl
set_option maxRecDepth 100000 in
theorem sL_law_565 {x : Nat} : Go kL_law 565 [a0, a1, (.ref x), a3, a4, a5, a6, a7, a8] st bc bs hp Q ↔ Go kL_law 566 [a0, a1, (.ref x), a3, a4, a5, a6, a7, a8] (.ref x :: st) bc bs hp Q := Go_next (i := .aload_n 2) rfl rfl
set_option maxRecDepth 100000 in
theorem sL_law_566 {x : Nat} : Go kL_law 566 [a0, a1, a2, a3, a4, a5, a6, a7, a8] (.ref x :: st) bc bs hp Q ↔ Rcv hp x 8 ∧ nsum st ≤ 8 ∧ Call kX8_thrown [.ref x] hp (Aft kL_law 569 [a0, a1, a2, a3, a4, a5, a6, a7, a8] st bc bs Q) := Go_invV0 rfl rfl rfl rfl rfl rfl rfl rfl rfl rfl
set_option maxRecDepth 100000 in
theorem sL_law_569 {x : Int32} : Go kL_law 569 [a0, a1, a2, a3, a4, a5, (.int x), a7, a8] st bc bs hp Q ↔ Go kL_law 571 [a0, a1, a2, a3, a4, a5, (.int x), a7, a8] (.int x :: st) bc bs hp Q := Go_next (i := .iload 6) rfl rfl
set_option maxRecDepth 100000 in
theorem sL_law_571 {x y : Int32} : Go kL_law 571 [a0, a1, a2, a3, a4, a5, a6, a7, a8] (.int y :: .int x :: st) bc bs hp Q ↔ (x = y → Go kL_law 576 [a0, a1, a2, a3, a4, a5, a6, a7, a8] st bc bs hp Q) ∧ (¬ x = y → Go kL_law 574 [a0, a1, a2, a3, a4, a5, a6, a7, a8] st bc bs hp Q) := Go_ift (c := x = y) (i := .if_icmp .eq 5) rfl rfl
set_option maxRecDepth 100000 in
theorem sL_law_574 : Go kL_law 574 [a0, a1, a2, a3, a4, a5, a6, a7, a8] st bc bs hp Q ↔ Go kL_law 575 [a0, a1, a2, a3, a4, a5, a6, a7, a8] (.int 0 :: st) bc bs hp Q := Go_next (i := .iconst 0) rfl rfl
set_option maxRecDepth 100000 in
theorem sL_law_575 {x : Int32} : Go kL_law 575 [a0, a1, a2, a3, a4, a5, a6, a7, a8] [.int x] bc bs hp Q ↔ outI kL_law x = true ∧ Q (.inl (some (.int x))) hp := Go_retIf (i := .ireturn) rfl rfl
set_option maxRecDepth 100000 in
theorem sL_law_576 {x : Int32} : Go kL_law 576 [a0, a1, a2, a3, a4, a5, (.int x), a7, a8] st bc bs hp Q ↔ Go kL_law 578 [a0, a1, a2, a3, a4, a5, (.int x), a7, a8] (.int x :: st) bc bs hp Q := Go_next (i := .iload 6) rfl rfl
set_option maxRecDepth 100000 in
theorem sL_law_578 {x : Int32} : Go kL_law 578 [a0, a1, a2, a3, a4, a5, a6, a7, a8] (.int x :: st) bc bs hp Q ↔ (¬ x = 0 → Go kL_law 593 [a0, a1, a2, a3, a4, a5, a6, a7, a8] st bc bs hp Q) ∧ (x = 0 → Go kL_law 581 [a0, a1, a2, a3, a4, a5, a6, a7, a8] st bc bs hp Q) := Go_ifn (c := x = 0) (i := .ifCond .ne 15) rfl rfl
set_option maxRecDepth 100000 in
theorem sL_law_581 {x : Nat} : Go kL_law 581 [a0, a1, a2, (.ref x), a4, a5, a6, a7, a8] st bc bs hp Q ↔ Go kL_law 582 [a0, a1, a2, (.ref x), a4, a5, a6, a7, a8] (.ref x :: st) bc bs hp Q := Go_next (i := .aload_n 3) rfl rfl
set_option maxRecDepth 100000 in
theorem sL_law_582 : Go kL_law 582 [a0, a1, a2, a3, a4, a5, a6, a7, a8] st bc bs hp Q ↔ Go kL_law 583 [a0, a1, a2, a3, a4, a5, a6, a7, a8] (.int 0 :: st) bc bs hp Q := Go_next (i := .iconst 0) rfl rfl
set_option maxRecDepth 100000 in
theorem sL_law_583 {x : Nat} {i : Int32} : Go kL_law 583 [a0, a1, a2, a3, a4, a5, a6, a7, a8] (.int i :: .ref x :: st) bc bs hp Q ↔ RdL hp x i (fun v => Go kL_law 584 [a0, a1, a2, a3, a4, a5, a6, a7, a8] (.long v :: st) bc bs hp Q) := Go_lald rfl
set_option maxRecDepth 100000 in
theorem sL_law_584 {x : Int32} : Go kL_law 584 [a0, a1, a2, a3, a4, a5, a6, (.int x), a8] st bc bs hp Q ↔ Go kL_law 586 [a0, a1, a2, a3, a4, a5, a6, (.int x), a8] (.int x :: st) bc bs hp Q := Go_next (i := .iload 7) rfl rfl
set_option maxRecDepth 100000 in
theorem sL_law_586 {x : Int32} : Go kL_law 586 [a0, a1, a2, a3, a4, a5, a6, a7, a8] (.int x :: st) bc bs hp Q ↔ Go kL_law 587 [a0, a1, a2, a3, a4, a5, a6, a7, a8] (.long x.toInt64 :: st) bc bs hp Q := Go_next (i := .i2l) rfl rfl
set_option maxRecDepth 100000 in
theorem sL_law_587 {x y : Int64} : Go kL_law 587 [a0, a1, a2, a3, a4, a5, a6, a7, a8] (.long y :: .long x :: st) bc bs hp Q ↔ Go kL_law 588 [a0, a1, a2, a3, a4, a5, a6, a7, a8] (.int (lg_cmp x y) :: st) bc bs hp Q := Go_next (i := .lcmp) rfl rfl
set_option maxRecDepth 100000 in
theorem sL_law_588 {x : Int32} : Go kL_law 588 [a0, a1, a2, a3, a4, a5, a6, a7, a8] (.int x :: st) bc bs hp Q ↔ (x = 0 → Go kL_law 593 [a0, a1, a2, a3, a4, a5, a6, a7, a8] st bc bs hp Q) ∧ (¬ x = 0 → Go kL_law 591 [a0, a1, a2, a3, a4, a5, a6, a7, a8] st bc bs hp Q) := Go_ift (c := x = 0) (i := .ifCond .eq 5) rfl rfl
set_option maxRecDepth 100000 in
theorem sL_law_591 : Go kL_law 591 [a0, a1, a2, a3, a4, a5, a6, a7, a8] st bc bs hp Q ↔ Go kL_law 592 [a0, a1, a2, a3, a4, a5, a6, a7, a8] (.int 0 :: st) bc bs hp Q := Go_next (i := .iconst 0) rfl rfl
set_option maxRecDepth 100000 in
theorem sL_law_592 {x : Int32} : Go kL_law 592 [a0, a1, a2, a3, a4, a5, a6, a7, a8] [.int x] bc bs hp Q ↔ outI kL_law x = true ∧ Q (.inl (some (.int x))) hp := Go_retIf (i := .ireturn) rfl rfl
set_option maxRecDepth 100000 in
theorem sL_law_593 : Go kL_law 593 [a0, a1, a2, a3, a4, a5, a6, a7, a8] st bc bs hp Q ↔ Go kL_law 3086 [a0, a1, a2, a3, a4, a5, a6, a7, a8] st bc bs hp Q := Go_next (i := .goto 2493) rfl rfl
set_option maxRecDepth 100000 in
theorem sL_law_596 {x : Nat} : Go kL_law 596 [a0, (.ref x), a2, a3, a4, a5, a6, a7, a8] st bc bs hp Q ↔ Go kL_law 597 [a0, (.ref x), a2, a3, a4, a5, a6, a7, a8] (.ref x :: st) bc bs hp Q := Go_next (i := .aload_n 1) rfl rfl
set_option maxRecDepth 100000 in
theorem sL_law_597 {x : Nat} : Go kL_law 597 [(.ref x), a1, a2, a3, a4, a5, a6, a7, a8] st bc bs hp Q ↔ Go kL_law 598 [(.ref x), a1, a2, a3, a4, a5, a6, a7, a8] (.ref x :: st) bc bs hp Q := Go_next (i := .aload_n 0) rfl rfl
set_option maxRecDepth 100000 in
theorem sL_law_598 {x : Int32} : Go kL_law 598 [a0, a1, a2, a3, a4, (.int x), a6, a7, a8] st bc bs hp Q ↔ Go kL_law 600 [a0, a1, a2, a3, a4, (.int x), a6, a7, a8] (.int x :: st) bc bs hp Q := Go_next (i := .iload 5) rfl rfl
set_option maxRecDepth 100000 in
theorem sL_law_600 : Go kL_law 600 [a0, a1, a2, a3, a4, a5, a6, a7, a8] st bc bs hp Q ↔ Go kL_law 601 [a0, a1, a2, a3, a4, a5, a6, a7, a8] (.int 1 :: st) bc bs hp Q := Go_next (i := .iconst 1) rfl rfl
set_option maxRecDepth 100000 in
theorem sL_law_601 {x y : Int32} : Go kL_law 601 [a0, a1, a2, a3, a4, a5, a6, a7, a8] (.int y :: .int x :: st) bc bs hp Q ↔ Go kL_law 602 [a0, a1, a2, a3, a4, a5, a6, a7, a8] (.int (x + y) :: st) bc bs hp Q := Go_next (i := .iadd) rfl rfl
set_option maxRecDepth 100000 in
theorem sL_law_602 {x : Nat} {i : Int32} : Go kL_law 602 [a0, a1, a2, a3, a4, a5, a6, a7, a8] (.int i :: .ref x :: st) bc bs hp Q ↔ RdA hp x 0 i (fun v => Go kL_law 603 [a0, a1, a2, a3, a4, a5, a6, a7, a8] (.int v :: st) bc bs hp Q) := Go_iald rfl
set_option maxRecDepth 100000 in
theorem sL_law_603 {x : Nat} : Go kL_law 603 [(.ref x), a1, a2, a3, a4, a5, a6, a7, a8] st bc bs hp Q ↔ Go kL_law 604 [(.ref x), a1, a2, a3, a4, a5, a6, a7, a8] (.ref x :: st) bc bs hp Q := Go_next (i := .aload_n 0) rfl rfl
set_option maxRecDepth 100000 in
theorem sL_law_604 {x : Int32} : Go kL_law 604 [a0, a1, a2, a3, a4, (.int x), a6, a7, a8] st bc bs hp Q ↔ Go kL_law 606 [a0, a1, a2, a3, a4, (.int x), a6, a7, a8] (.int x :: st) bc bs hp Q := Go_next (i := .iload 5) rfl rfl
set_option maxRecDepth 100000 in
theorem sL_law_606 : Go kL_law 606 [a0, a1, a2, a3, a4, a5, a6, a7, a8] st bc bs hp Q ↔ Go kL_law 607 [a0, a1, a2, a3, a4, a5, a6, a7, a8] (.int 2 :: st) bc bs hp Q := Go_next (i := .iconst 2) rfl rfl
set_option maxRecDepth 100000 in
theorem sL_law_607 {x y : Int32} : Go kL_law 607 [a0, a1, a2, a3, a4, a5, a6, a7, a8] (.int y :: .int x :: st) bc bs hp Q ↔ Go kL_law 608 [a0, a1, a2, a3, a4, a5, a6, a7, a8] (.int (x + y) :: st) bc bs hp Q := Go_next (i := .iadd) rfl rfl
set_option maxRecDepth 100000 in
theorem sL_law_608 {x : Nat} {i : Int32} : Go kL_law 608 [a0, a1, a2, a3, a4, a5, a6, a7, a8] (.int i :: .ref x :: st) bc bs hp Q ↔ RdA hp x 0 i (fun v => Go kL_law 609 [a0, a1, a2, a3, a4, a5, a6, a7, a8] (.int v :: st) bc bs hp Q) := Go_iald rfl
set_option maxRecDepth 100000 in
theorem sL_law_609 {x : Nat} : Go kL_law 609 [(.ref x), a1, a2, a3, a4, a5, a6, a7, a8] st bc bs hp Q ↔ Go kL_law 610 [(.ref x), a1, a2, a3, a4, a5, a6, a7, a8] (.ref x :: st) bc bs hp Q := Go_next (i := .aload_n 0) rfl rfl
set_option maxRecDepth 100000 in
theorem sL_law_610 {x : Int32} : Go kL_law 610 [a0, a1, a2, a3, a4, (.int x), a6, a7, a8] st bc bs hp Q ↔ Go kL_law 612 [a0, a1, a2, a3, a4, (.int x), a6, a7, a8] (.int x :: st) bc bs hp Q := Go_next (i := .iload 5) rfl rfl
set_option maxRecDepth 100000 in
theorem sL_law_612 : Go kL_law 612 [a0, a1, a2, a3, a4, a5, a6, a7, a8] st bc bs hp Q ↔ Go kL_law 613 [a0, a1, a2, a3, a4, a5, a6, a7, a8] (.int 3 :: st) bc bs hp Q := Go_next (i := .iconst 3) rfl rfl
set_option maxRecDepth 100000 in
theorem sL_law_613 {x y : Int32} : Go kL_law 613 [a0, a1, a2, a3, a4, a5, a6, a7, a8] (.int y :: .int x :: st) bc bs hp Q ↔ Go kL_law 614 [a0, a1, a2, a3, a4, a5, a6, a7, a8] (.int (x + y) :: st) bc bs hp Q := Go_next (i := .iadd) rfl rfl
set_option maxRecDepth 100000 in
theorem sL_law_614 {x : Nat} {i : Int32} : Go kL_law 614 [a0, a1, a2, a3, a4, a5, a6, a7, a8] (.int i :: .ref x :: st) bc bs hp Q ↔ RdA hp x 0 i (fun v => Go kL_law 615 [a0, a1, a2, a3, a4, a5, a6, a7, a8] (.int v :: st) bc bs hp Q) := Go_iald rfl
set_option maxRecDepth 100000 in
theorem sL_law_615 {x : Nat} : Go kL_law 615 [a0, a1, a2, (.ref x), a4, a5, a6, a7, a8] st bc bs hp Q ↔ Go kL_law 616 [a0, a1, a2, (.ref x), a4, a5, a6, a7, a8] (.ref x :: st) bc bs hp Q := Go_next (i := .aload_n 3) rfl rfl
set_option maxRecDepth 100000 in
theorem sL_law_616 {p0 : Nat} {p1 : Int32} {p2 : Int32} {p3 : Int32} {p4 : Nat} : Go kL_law 616 [a0, a1, a2, a3, a4, a5, a6, a7, a8] (.ref p4 :: .int p3 :: .int p2 :: .int p1 :: .ref p0 :: st) bc bs hp Q ↔ (3 ≤ bc ∧ 18 ≤ bs ∧ nsum st ≤ 8) ∧ Call kL_set [.ref p0, .int p1, .int p2, .int p3, .ref p4] hp (Aft kL_law 619 [a0, a1, a2, a3, a4, a5, a6, a7, a8] st (bc - 3) (bs - 18) Q) := Go_inv (i := .invokestatic 180) rfl rfl rfl rfl rfl rfl
set_option maxRecDepth 100000 in
theorem sL_law_619 {x : Int32} (hj : a5.category = 1) : Go kL_law 619 [a0, a1, a2, a3, a4, a5, a6, a7, a8] (.int x :: st) bc bs hp Q ↔ Go kL_law 621 [a0, a1, a2, a3, a4, a5, (.int x), a7, a8] st bc bs hp Q := Go_sto (i := .istore 6) (j := 6) (v := .int x) rfl rfl (Nat.le_of_ble_eq_true rfl) (decide_eq_true hj) rfl
set_option maxRecDepth 100000 in
theorem sL_law_621 {x : Nat} : Go kL_law 621 [a0, a1, (.ref x), a3, a4, a5, a6, a7, a8] st bc bs hp Q ↔ Go kL_law 622 [a0, a1, (.ref x), a3, a4, a5, a6, a7, a8] (.ref x :: st) bc bs hp Q := Go_next (i := .aload_n 2) rfl rfl
set_option maxRecDepth 100000 in
theorem sL_law_622 {x : Nat} : Go kL_law 622 [(.ref x), a1, a2, a3, a4, a5, a6, a7, a8] st bc bs hp Q ↔ Go kL_law 623 [(.ref x), a1, a2, a3, a4, a5, a6, a7, a8] (.ref x :: st) bc bs hp Q := Go_next (i := .aload_n 0) rfl rfl
set_option maxRecDepth 100000 in
theorem sL_law_623 {x : Int32} : Go kL_law 623 [a0, a1, a2, a3, a4, (.int x), a6, a7, a8] st bc bs hp Q ↔ Go kL_law 625 [a0, a1, a2, a3, a4, (.int x), a6, a7, a8] (.int x :: st) bc bs hp Q := Go_next (i := .iload 5) rfl rfl
set_option maxRecDepth 100000 in
theorem sL_law_625 : Go kL_law 625 [a0, a1, a2, a3, a4, a5, a6, a7, a8] st bc bs hp Q ↔ Go kL_law 626 [a0, a1, a2, a3, a4, a5, a6, a7, a8] (.int 1 :: st) bc bs hp Q := Go_next (i := .iconst 1) rfl rfl
set_option maxRecDepth 100000 in
theorem sL_law_626 {x y : Int32} : Go kL_law 626 [a0, a1, a2, a3, a4, a5, a6, a7, a8] (.int y :: .int x :: st) bc bs hp Q ↔ Go kL_law 627 [a0, a1, a2, a3, a4, a5, a6, a7, a8] (.int (x + y) :: st) bc bs hp Q := Go_next (i := .iadd) rfl rfl
set_option maxRecDepth 100000 in
theorem sL_law_627 {x : Nat} {i : Int32} : Go kL_law 627 [a0, a1, a2, a3, a4, a5, a6, a7, a8] (.int i :: .ref x :: st) bc bs hp Q ↔ RdA hp x 0 i (fun v => Go kL_law 628 [a0, a1, a2, a3, a4, a5, a6, a7, a8] (.int v :: st) bc bs hp Q) := Go_iald rfl
set_option maxRecDepth 100000 in
theorem sL_law_628 {x : Nat} : Go kL_law 628 [(.ref x), a1, a2, a3, a4, a5, a6, a7, a8] st bc bs hp Q ↔ Go kL_law 629 [(.ref x), a1, a2, a3, a4, a5, a6, a7, a8] (.ref x :: st) bc bs hp Q := Go_next (i := .aload_n 0) rfl rfl
set_option maxRecDepth 100000 in
theorem sL_law_629 {x : Int32} : Go kL_law 629 [a0, a1, a2, a3, a4, (.int x), a6, a7, a8] st bc bs hp Q ↔ Go kL_law 631 [a0, a1, a2, a3, a4, (.int x), a6, a7, a8] (.int x :: st) bc bs hp Q := Go_next (i := .iload 5) rfl rfl
set_option maxRecDepth 100000 in
theorem sL_law_631 : Go kL_law 631 [a0, a1, a2, a3, a4, a5, a6, a7, a8] st bc bs hp Q ↔ Go kL_law 632 [a0, a1, a2, a3, a4, a5, a6, a7, a8] (.int 2 :: st) bc bs hp Q := Go_next (i := .iconst 2) rfl rfl
set_option maxRecDepth 100000 in
theorem sL_law_632 {x y : Int32} : Go kL_law 632 [a0, a1, a2, a3, a4, a5, a6, a7, a8] (.int y :: .int x :: st) bc bs hp Q ↔ Go kL_law 633 [a0, a1, a2, a3, a4, a5, a6, a7, a8] (.int (x + y) :: st) bc bs hp Q := Go_next (i := .iadd) rfl rfl
set_option maxRecDepth 100000 in
theorem sL_law_633 {x : Nat} {i : Int32} : Go kL_law 633 [a0, a1, a2, a3, a4, a5, a6, a7, a8] (.int i :: .ref x :: st) bc bs hp Q ↔ RdA hp x 0 i (fun v => Go kL_law 634 [a0, a1, a2, a3, a4, a5, a6, a7, a8] (.int v :: st) bc bs hp Q) := Go_iald rfl
set_option maxRecDepth 100000 in
theorem sL_law_634 {x : Nat} : Go kL_law 634 [(.ref x), a1, a2, a3, a4, a5, a6, a7, a8] st bc bs hp Q ↔ Go kL_law 635 [(.ref x), a1, a2, a3, a4, a5, a6, a7, a8] (.ref x :: st) bc bs hp Q := Go_next (i := .aload_n 0) rfl rfl
set_option maxRecDepth 100000 in
theorem sL_law_635 {x : Int32} : Go kL_law 635 [a0, a1, a2, a3, a4, (.int x), a6, a7, a8] st bc bs hp Q ↔ Go kL_law 637 [a0, a1, a2, a3, a4, (.int x), a6, a7, a8] (.int x :: st) bc bs hp Q := Go_next (i := .iload 5) rfl rfl
set_option maxRecDepth 100000 in
theorem sL_law_637 : Go kL_law 637 [a0, a1, a2, a3, a4, a5, a6, a7, a8] st bc bs hp Q ↔ Go kL_law 638 [a0, a1, a2, a3, a4, a5, a6, a7, a8] (.int 3 :: st) bc bs hp Q := Go_next (i := .iconst 3) rfl rfl
set_option maxRecDepth 100000 in
theorem sL_law_638 {x y : Int32} : Go kL_law 638 [a0, a1, a2, a3, a4, a5, a6, a7, a8] (.int y :: .int x :: st) bc bs hp Q ↔ Go kL_law 639 [a0, a1, a2, a3, a4, a5, a6, a7, a8] (.int (x + y) :: st) bc bs hp Q := Go_next (i := .iadd) rfl rfl
set_option maxRecDepth 100000 in
theorem sL_law_639 {x : Nat} {i : Int32} : Go kL_law 639 [a0, a1, a2, a3, a4, a5, a6, a7, a8] (.int i :: .ref x :: st) bc bs hp Q ↔ RdA hp x 0 i (fun v => Go kL_law 640 [a0, a1, a2, a3, a4, a5, a6, a7, a8] (.int v :: st) bc bs hp Q) := Go_iald rfl
set_option maxRecDepth 100000 in
theorem sL_law_640 {p0 : Int32} {p1 : Int32} {p2 : Int32} {x : Nat} : Go kL_law 640 [a0, a1, a2, a3, a4, a5, a6, a7, a8] (.int p2 :: .int p1 :: .int p0 :: .ref x :: st) bc bs hp Q ↔ Rcv hp x 8 ∧ nsum st ≤ 8 ∧ Call kX8_set [.ref x, .int p0, .int p1, .int p2] hp (Aft kL_law 643 [a0, a1, a2, a3, a4, a5, a6, a7, a8] st bc bs Q) := Go_invV0 rfl rfl rfl rfl rfl rfl rfl rfl rfl rfl
set_option maxRecDepth 100000 in
theorem sL_law_643 {x : Int32} (hj : a6.category = 1) : Go kL_law 643 [a0, a1, a2, a3, a4, a5, a6, a7, a8] (.int x :: st) bc bs hp Q ↔ Go kL_law 645 [a0, a1, a2, a3, a4, a5, a6, (.int x), a8] st bc bs hp Q := Go_sto (i := .istore 7) (j := 7) (v := .int x) rfl rfl (Nat.le_of_ble_eq_true rfl) (decide_eq_true hj) rfl
set_option maxRecDepth 100000 in
theorem sL_law_645 {x : Nat} : Go kL_law 645 [a0, a1, (.ref x), a3, a4, a5, a6, a7, a8] st bc bs hp Q ↔ Go kL_law 646 [a0, a1, (.ref x), a3, a4, a5, a6, a7, a8] (.ref x :: st) bc bs hp Q := Go_next (i := .aload_n 2) rfl rfl
set_option maxRecDepth 100000 in
theorem sL_law_646 {x : Nat} : Go kL_law 646 [a0, a1, a2, a3, a4, a5, a6, a7, a8] (.ref x :: st) bc bs hp Q ↔ Rcv hp x 8 ∧ nsum st ≤ 8 ∧ Call kX8_thrown [.ref x] hp (Aft kL_law 649 [a0, a1, a2, a3, a4, a5, a6, a7, a8] st bc bs Q) := Go_invV0 rfl rfl rfl rfl rfl rfl rfl rfl rfl rfl
set_option maxRecDepth 100000 in
theorem sL_law_649 {x : Int32} : Go kL_law 649 [a0, a1, a2, a3, a4, a5, (.int x), a7, a8] st bc bs hp Q ↔ Go kL_law 651 [a0, a1, a2, a3, a4, a5, (.int x), a7, a8] (.int x :: st) bc bs hp Q := Go_next (i := .iload 6) rfl rfl
set_option maxRecDepth 100000 in
theorem sL_law_651 {x y : Int32} : Go kL_law 651 [a0, a1, a2, a3, a4, a5, a6, a7, a8] (.int y :: .int x :: st) bc bs hp Q ↔ (x = y → Go kL_law 656 [a0, a1, a2, a3, a4, a5, a6, a7, a8] st bc bs hp Q) ∧ (¬ x = y → Go kL_law 654 [a0, a1, a2, a3, a4, a5, a6, a7, a8] st bc bs hp Q) := Go_ift (c := x = y) (i := .if_icmp .eq 5) rfl rfl
set_option maxRecDepth 100000 in
theorem sL_law_654 : Go kL_law 654 [a0, a1, a2, a3, a4, a5, a6, a7, a8] st bc bs hp Q ↔ Go kL_law 655 [a0, a1, a2, a3, a4, a5, a6, a7, a8] (.int 0 :: st) bc bs hp Q := Go_next (i := .iconst 0) rfl rfl
set_option maxRecDepth 100000 in
theorem sL_law_655 {x : Int32} : Go kL_law 655 [a0, a1, a2, a3, a4, a5, a6, a7, a8] [.int x] bc bs hp Q ↔ outI kL_law x = true ∧ Q (.inl (some (.int x))) hp := Go_retIf (i := .ireturn) rfl rfl
set_option maxRecDepth 100000 in
theorem sL_law_656 {x : Int32} : Go kL_law 656 [a0, a1, a2, a3, a4, a5, (.int x), a7, a8] st bc bs hp Q ↔ Go kL_law 658 [a0, a1, a2, a3, a4, a5, (.int x), a7, a8] (.int x :: st) bc bs hp Q := Go_next (i := .iload 6) rfl rfl
set_option maxRecDepth 100000 in
theorem sL_law_658 {x : Int32} : Go kL_law 658 [a0, a1, a2, a3, a4, a5, a6, a7, a8] (.int x :: st) bc bs hp Q ↔ (¬ x = 0 → Go kL_law 673 [a0, a1, a2, a3, a4, a5, a6, a7, a8] st bc bs hp Q) ∧ (x = 0 → Go kL_law 661 [a0, a1, a2, a3, a4, a5, a6, a7, a8] st bc bs hp Q) := Go_ifn (c := x = 0) (i := .ifCond .ne 15) rfl rfl
set_option maxRecDepth 100000 in
theorem sL_law_661 {x : Nat} : Go kL_law 661 [a0, a1, a2, (.ref x), a4, a5, a6, a7, a8] st bc bs hp Q ↔ Go kL_law 662 [a0, a1, a2, (.ref x), a4, a5, a6, a7, a8] (.ref x :: st) bc bs hp Q := Go_next (i := .aload_n 3) rfl rfl
set_option maxRecDepth 100000 in
theorem sL_law_662 : Go kL_law 662 [a0, a1, a2, a3, a4, a5, a6, a7, a8] st bc bs hp Q ↔ Go kL_law 663 [a0, a1, a2, a3, a4, a5, a6, a7, a8] (.int 0 :: st) bc bs hp Q := Go_next (i := .iconst 0) rfl rfl
set_option maxRecDepth 100000 in
theorem sL_law_663 {x : Nat} {i : Int32} : Go kL_law 663 [a0, a1, a2, a3, a4, a5, a6, a7, a8] (.int i :: .ref x :: st) bc bs hp Q ↔ RdL hp x i (fun v => Go kL_law 664 [a0, a1, a2, a3, a4, a5, a6, a7, a8] (.long v :: st) bc bs hp Q) := Go_lald rfl
set_option maxRecDepth 100000 in
theorem sL_law_664 {x : Int32} : Go kL_law 664 [a0, a1, a2, a3, a4, a5, a6, (.int x), a8] st bc bs hp Q ↔ Go kL_law 666 [a0, a1, a2, a3, a4, a5, a6, (.int x), a8] (.int x :: st) bc bs hp Q := Go_next (i := .iload 7) rfl rfl
set_option maxRecDepth 100000 in
theorem sL_law_666 {x : Int32} : Go kL_law 666 [a0, a1, a2, a3, a4, a5, a6, a7, a8] (.int x :: st) bc bs hp Q ↔ Go kL_law 667 [a0, a1, a2, a3, a4, a5, a6, a7, a8] (.long x.toInt64 :: st) bc bs hp Q := Go_next (i := .i2l) rfl rfl
set_option maxRecDepth 100000 in
theorem sL_law_667 {x y : Int64} : Go kL_law 667 [a0, a1, a2, a3, a4, a5, a6, a7, a8] (.long y :: .long x :: st) bc bs hp Q ↔ Go kL_law 668 [a0, a1, a2, a3, a4, a5, a6, a7, a8] (.int (lg_cmp x y) :: st) bc bs hp Q := Go_next (i := .lcmp) rfl rfl
set_option maxRecDepth 100000 in
theorem sL_law_668 {x : Int32} : Go kL_law 668 [a0, a1, a2, a3, a4, a5, a6, a7, a8] (.int x :: st) bc bs hp Q ↔ (x = 0 → Go kL_law 673 [a0, a1, a2, a3, a4, a5, a6, a7, a8] st bc bs hp Q) ∧ (¬ x = 0 → Go kL_law 671 [a0, a1, a2, a3, a4, a5, a6, a7, a8] st bc bs hp Q) := Go_ift (c := x = 0) (i := .ifCond .eq 5) rfl rfl
set_option maxRecDepth 100000 in
theorem sL_law_671 : Go kL_law 671 [a0, a1, a2, a3, a4, a5, a6, a7, a8] st bc bs hp Q ↔ Go kL_law 672 [a0, a1, a2, a3, a4, a5, a6, a7, a8] (.int 0 :: st) bc bs hp Q := Go_next (i := .iconst 0) rfl rfl
set_option maxRecDepth 100000 in
theorem sL_law_672 {x : Int32} : Go kL_law 672 [a0, a1, a2, a3, a4, a5, a6, a7, a8] [.int x] bc bs hp Q ↔ outI kL_law x = true ∧ Q (.inl (some (.int x))) hp := Go_retIf (i := .ireturn) rfl rfl
set_option maxRecDepth 100000 in
theorem sL_law_673 : Go kL_law 673 [a0, a1, a2, a3, a4, a5, a6, a7, a8] st bc bs hp Q ↔ Go kL_law 3086 [a0, a1, a2, a3, a4, a5, a6, a7, a8] st bc bs hp Q := Go_next (i := .goto 2413) rfl rfl
set_option maxRecDepth 100000 in
theorem sL_law_676 {x : Nat} : Go kL_law 676 [a0, (.ref x), a2, a3, a4, a5, a6, a7, a8] st bc bs hp Q ↔ Go kL_law 677 [a0, (.ref x), a2, a3, a4, a5, a6, a7, a8] (.ref x :: st) bc bs hp Q := Go_next (i := .aload_n 1) rfl rfl
set_option maxRecDepth 100000 in
theorem sL_law_677 {x : Nat} : Go kL_law 677 [(.ref x), a1, a2, a3, a4, a5, a6, a7, a8] st bc bs hp Q ↔ Go kL_law 678 [(.ref x), a1, a2, a3, a4, a5, a6, a7, a8] (.ref x :: st) bc bs hp Q := Go_next (i := .aload_n 0) rfl rfl
set_option maxRecDepth 100000 in
theorem sL_law_678 {x : Int32} : Go kL_law 678 [a0, a1, a2, a3, a4, (.int x), a6, a7, a8] st bc bs hp Q ↔ Go kL_law 680 [a0, a1, a2, a3, a4, (.int x), a6, a7, a8] (.int x :: st) bc bs hp Q := Go_next (i := .iload 5) rfl rfl
set_option maxRecDepth 100000 in
theorem sL_law_680 : Go kL_law 680 [a0, a1, a2, a3, a4, a5, a6, a7, a8] st bc bs hp Q ↔ Go kL_law 681 [a0, a1, a2, a3, a4, a5, a6, a7, a8] (.int 1 :: st) bc bs hp Q := Go_next (i := .iconst 1) rfl rfl
set_option maxRecDepth 100000 in
theorem sL_law_681 {x y : Int32} : Go kL_law 681 [a0, a1, a2, a3, a4, a5, a6, a7, a8] (.int y :: .int x :: st) bc bs hp Q ↔ Go kL_law 682 [a0, a1, a2, a3, a4, a5, a6, a7, a8] (.int (x + y) :: st) bc bs hp Q := Go_next (i := .iadd) rfl rfl
set_option maxRecDepth 100000 in
theorem sL_law_682 {x : Nat} {i : Int32} : Go kL_law 682 [a0, a1, a2, a3, a4, a5, a6, a7, a8] (.int i :: .ref x :: st) bc bs hp Q ↔ RdA hp x 0 i (fun v => Go kL_law 683 [a0, a1, a2, a3, a4, a5, a6, a7, a8] (.int v :: st) bc bs hp Q) := Go_iald rfl
set_option maxRecDepth 100000 in
theorem sL_law_683 {x : Nat} : Go kL_law 683 [(.ref x), a1, a2, a3, a4, a5, a6, a7, a8] st bc bs hp Q ↔ Go kL_law 684 [(.ref x), a1, a2, a3, a4, a5, a6, a7, a8] (.ref x :: st) bc bs hp Q := Go_next (i := .aload_n 0) rfl rfl
set_option maxRecDepth 100000 in
theorem sL_law_684 {x : Int32} : Go kL_law 684 [a0, a1, a2, a3, a4, (.int x), a6, a7, a8] st bc bs hp Q ↔ Go kL_law 686 [a0, a1, a2, a3, a4, (.int x), a6, a7, a8] (.int x :: st) bc bs hp Q := Go_next (i := .iload 5) rfl rfl
set_option maxRecDepth 100000 in
theorem sL_law_686 : Go kL_law 686 [a0, a1, a2, a3, a4, a5, a6, a7, a8] st bc bs hp Q ↔ Go kL_law 687 [a0, a1, a2, a3, a4, a5, a6, a7, a8] (.int 2 :: st) bc bs hp Q := Go_next (i := .iconst 2) rfl rfl
set_option maxRecDepth 100000 in
theorem sL_law_687 {x y : Int32} : Go kL_law 687 [a0, a1, a2, a3, a4, a5, a6, a7, a8] (.int y :: .int x :: st) bc bs hp Q ↔ Go kL_law 688 [a0, a1, a2, a3, a4, a5, a6, a7, a8] (.int (x + y) :: st) bc bs hp Q := Go_next (i := .iadd) rfl rfl
set_option maxRecDepth 100000 in
theorem sL_law_688 {x : Nat} {i : Int32} : Go kL_law 688 [a0, a1, a2, a3, a4, a5, a6, a7, a8] (.int i :: .ref x :: st) bc bs hp Q ↔ RdA hp x 0 i (fun v => Go kL_law 689 [a0, a1, a2, a3, a4, a5, a6, a7, a8] (.int v :: st) bc bs hp Q) := Go_iald rfl
set_option maxRecDepth 100000 in
theorem sL_law_689 {x : Nat} : Go kL_law 689 [a0, a1, a2, (.ref x), a4, a5, a6, a7, a8] st bc bs hp Q ↔ Go kL_law 690 [a0, a1, a2, (.ref x), a4, a5, a6, a7, a8] (.ref x :: st) bc bs hp Q := Go_next (i := .aload_n 3) rfl rfl
set_option maxRecDepth 100000 in
theorem sL_law_690 {p0 : Nat} {p1 : Int32} {p2 : Int32} {p3 : Nat} : Go kL_law 690 [a0, a1, a2, a3, a4, a5, a6, a7, a8] (.ref p3 :: .int p2 :: .int p1 :: .ref p0 :: st) bc bs hp Q ↔ (2 ≤ bc ∧ 12 ≤ bs ∧ nsum st ≤ 8) ∧ Call kL_point [.ref p0, .int p1, .int p2, .ref p3] hp (Aft kL_law 693 [a0, a1, a2, a3, a4, a5, a6, a7, a8] st (bc - 2) (bs - 12) Q) := Go_inv (i := .invokestatic 184) rfl rfl rfl rfl rfl rfl
set_option maxRecDepth 100000 in
theorem sL_law_693 {x : Int32} (hj : a5.category = 1) : Go kL_law 693 [a0, a1, a2, a3, a4, a5, a6, a7, a8] (.int x :: st) bc bs hp Q ↔ Go kL_law 695 [a0, a1, a2, a3, a4, a5, (.int x), a7, a8] st bc bs hp Q := Go_sto (i := .istore 6) (j := 6) (v := .int x) rfl rfl (Nat.le_of_ble_eq_true rfl) (decide_eq_true hj) rfl
set_option maxRecDepth 100000 in
theorem sL_law_695 {x : Nat} : Go kL_law 695 [a0, a1, (.ref x), a3, a4, a5, a6, a7, a8] st bc bs hp Q ↔ Go kL_law 696 [a0, a1, (.ref x), a3, a4, a5, a6, a7, a8] (.ref x :: st) bc bs hp Q := Go_next (i := .aload_n 2) rfl rfl
set_option maxRecDepth 100000 in
theorem sL_law_696 {x : Nat} : Go kL_law 696 [(.ref x), a1, a2, a3, a4, a5, a6, a7, a8] st bc bs hp Q ↔ Go kL_law 697 [(.ref x), a1, a2, a3, a4, a5, a6, a7, a8] (.ref x :: st) bc bs hp Q := Go_next (i := .aload_n 0) rfl rfl
set_option maxRecDepth 100000 in
theorem sL_law_697 {x : Int32} : Go kL_law 697 [a0, a1, a2, a3, a4, (.int x), a6, a7, a8] st bc bs hp Q ↔ Go kL_law 699 [a0, a1, a2, a3, a4, (.int x), a6, a7, a8] (.int x :: st) bc bs hp Q := Go_next (i := .iload 5) rfl rfl
set_option maxRecDepth 100000 in
theorem sL_law_699 : Go kL_law 699 [a0, a1, a2, a3, a4, a5, a6, a7, a8] st bc bs hp Q ↔ Go kL_law 700 [a0, a1, a2, a3, a4, a5, a6, a7, a8] (.int 1 :: st) bc bs hp Q := Go_next (i := .iconst 1) rfl rfl
set_option maxRecDepth 100000 in
theorem sL_law_700 {x y : Int32} : Go kL_law 700 [a0, a1, a2, a3, a4, a5, a6, a7, a8] (.int y :: .int x :: st) bc bs hp Q ↔ Go kL_law 701 [a0, a1, a2, a3, a4, a5, a6, a7, a8] (.int (x + y) :: st) bc bs hp Q := Go_next (i := .iadd) rfl rfl
set_option maxRecDepth 100000 in
theorem sL_law_701 {x : Nat} {i : Int32} : Go kL_law 701 [a0, a1, a2, a3, a4, a5, a6, a7, a8] (.int i :: .ref x :: st) bc bs hp Q ↔ RdA hp x 0 i (fun v => Go kL_law 702 [a0, a1, a2, a3, a4, a5, a6, a7, a8] (.int v :: st) bc bs hp Q) := Go_iald rfl
set_option maxRecDepth 100000 in
theorem sL_law_702 {x : Nat} : Go kL_law 702 [(.ref x), a1, a2, a3, a4, a5, a6, a7, a8] st bc bs hp Q ↔ Go kL_law 703 [(.ref x), a1, a2, a3, a4, a5, a6, a7, a8] (.ref x :: st) bc bs hp Q := Go_next (i := .aload_n 0) rfl rfl
set_option maxRecDepth 100000 in
theorem sL_law_703 {x : Int32} : Go kL_law 703 [a0, a1, a2, a3, a4, (.int x), a6, a7, a8] st bc bs hp Q ↔ Go kL_law 705 [a0, a1, a2, a3, a4, (.int x), a6, a7, a8] (.int x :: st) bc bs hp Q := Go_next (i := .iload 5) rfl rfl
set_option maxRecDepth 100000 in
theorem sL_law_705 : Go kL_law 705 [a0, a1, a2, a3, a4, a5, a6, a7, a8] st bc bs hp Q ↔ Go kL_law 706 [a0, a1, a2, a3, a4, a5, a6, a7, a8] (.int 2 :: st) bc bs hp Q := Go_next (i := .iconst 2) rfl rfl
set_option maxRecDepth 100000 in
theorem sL_law_706 {x y : Int32} : Go kL_law 706 [a0, a1, a2, a3, a4, a5, a6, a7, a8] (.int y :: .int x :: st) bc bs hp Q ↔ Go kL_law 707 [a0, a1, a2, a3, a4, a5, a6, a7, a8] (.int (x + y) :: st) bc bs hp Q := Go_next (i := .iadd) rfl rfl
set_option maxRecDepth 100000 in
theorem sL_law_707 {x : Nat} {i : Int32} : Go kL_law 707 [a0, a1, a2, a3, a4, a5, a6, a7, a8] (.int i :: .ref x :: st) bc bs hp Q ↔ RdA hp x 0 i (fun v => Go kL_law 708 [a0, a1, a2, a3, a4, a5, a6, a7, a8] (.int v :: st) bc bs hp Q) := Go_iald rfl
set_option maxRecDepth 100000 in
theorem sL_law_708 {p0 : Int32} {p1 : Int32} {x : Nat} : Go kL_law 708 [a0, a1, a2, a3, a4, a5, a6, a7, a8] (.int p1 :: .int p0 :: .ref x :: st) bc bs hp Q ↔ Rcv hp x 8 ∧ nsum st ≤ 8 ∧ Call kX8_point [.ref x, .int p0, .int p1] hp (Aft kL_law 711 [a0, a1, a2, a3, a4, a5, a6, a7, a8] st bc bs Q) := Go_invV0 rfl rfl rfl rfl rfl rfl rfl rfl rfl rfl
set_option maxRecDepth 100000 in
theorem sL_law_711 {x : Int32} (hj : a6.category = 1) : Go kL_law 711 [a0, a1, a2, a3, a4, a5, a6, a7, a8] (.int x :: st) bc bs hp Q ↔ Go kL_law 713 [a0, a1, a2, a3, a4, a5, a6, (.int x), a8] st bc bs hp Q := Go_sto (i := .istore 7) (j := 7) (v := .int x) rfl rfl (Nat.le_of_ble_eq_true rfl) (decide_eq_true hj) rfl
set_option maxRecDepth 100000 in
theorem sL_law_713 {x : Nat} : Go kL_law 713 [a0, a1, (.ref x), a3, a4, a5, a6, a7, a8] st bc bs hp Q ↔ Go kL_law 714 [a0, a1, (.ref x), a3, a4, a5, a6, a7, a8] (.ref x :: st) bc bs hp Q := Go_next (i := .aload_n 2) rfl rfl
set_option maxRecDepth 100000 in
theorem sL_law_714 {x : Nat} : Go kL_law 714 [a0, a1, a2, a3, a4, a5, a6, a7, a8] (.ref x :: st) bc bs hp Q ↔ Rcv hp x 8 ∧ nsum st ≤ 8 ∧ Call kX8_thrown [.ref x] hp (Aft kL_law 717 [a0, a1, a2, a3, a4, a5, a6, a7, a8] st bc bs Q) := Go_invV0 rfl rfl rfl rfl rfl rfl rfl rfl rfl rfl
set_option maxRecDepth 100000 in
theorem sL_law_717 {x : Int32} : Go kL_law 717 [a0, a1, a2, a3, a4, a5, (.int x), a7, a8] st bc bs hp Q ↔ Go kL_law 719 [a0, a1, a2, a3, a4, a5, (.int x), a7, a8] (.int x :: st) bc bs hp Q := Go_next (i := .iload 6) rfl rfl
set_option maxRecDepth 100000 in
theorem sL_law_719 {x y : Int32} : Go kL_law 719 [a0, a1, a2, a3, a4, a5, a6, a7, a8] (.int y :: .int x :: st) bc bs hp Q ↔ (x = y → Go kL_law 724 [a0, a1, a2, a3, a4, a5, a6, a7, a8] st bc bs hp Q) ∧ (¬ x = y → Go kL_law 722 [a0, a1, a2, a3, a4, a5, a6, a7, a8] st bc bs hp Q) := Go_ift (c := x = y) (i := .if_icmp .eq 5) rfl rfl
set_option maxRecDepth 100000 in
theorem sL_law_722 : Go kL_law 722 [a0, a1, a2, a3, a4, a5, a6, a7, a8] st bc bs hp Q ↔ Go kL_law 723 [a0, a1, a2, a3, a4, a5, a6, a7, a8] (.int 0 :: st) bc bs hp Q := Go_next (i := .iconst 0) rfl rfl
set_option maxRecDepth 100000 in
theorem sL_law_723 {x : Int32} : Go kL_law 723 [a0, a1, a2, a3, a4, a5, a6, a7, a8] [.int x] bc bs hp Q ↔ outI kL_law x = true ∧ Q (.inl (some (.int x))) hp := Go_retIf (i := .ireturn) rfl rfl
set_option maxRecDepth 100000 in
theorem sL_law_724 {x : Int32} : Go kL_law 724 [a0, a1, a2, a3, a4, a5, (.int x), a7, a8] st bc bs hp Q ↔ Go kL_law 726 [a0, a1, a2, a3, a4, a5, (.int x), a7, a8] (.int x :: st) bc bs hp Q := Go_next (i := .iload 6) rfl rfl
set_option maxRecDepth 100000 in
theorem sL_law_726 {x : Int32} : Go kL_law 726 [a0, a1, a2, a3, a4, a5, a6, a7, a8] (.int x :: st) bc bs hp Q ↔ (¬ x = 0 → Go kL_law 741 [a0, a1, a2, a3, a4, a5, a6, a7, a8] st bc bs hp Q) ∧ (x = 0 → Go kL_law 729 [a0, a1, a2, a3, a4, a5, a6, a7, a8] st bc bs hp Q) := Go_ifn (c := x = 0) (i := .ifCond .ne 15) rfl rfl
set_option maxRecDepth 100000 in
theorem sL_law_729 {x : Nat} : Go kL_law 729 [a0, a1, a2, (.ref x), a4, a5, a6, a7, a8] st bc bs hp Q ↔ Go kL_law 730 [a0, a1, a2, (.ref x), a4, a5, a6, a7, a8] (.ref x :: st) bc bs hp Q := Go_next (i := .aload_n 3) rfl rfl
set_option maxRecDepth 100000 in
theorem sL_law_730 : Go kL_law 730 [a0, a1, a2, a3, a4, a5, a6, a7, a8] st bc bs hp Q ↔ Go kL_law 731 [a0, a1, a2, a3, a4, a5, a6, a7, a8] (.int 0 :: st) bc bs hp Q := Go_next (i := .iconst 0) rfl rfl
set_option maxRecDepth 100000 in
theorem sL_law_731 {x : Nat} {i : Int32} : Go kL_law 731 [a0, a1, a2, a3, a4, a5, a6, a7, a8] (.int i :: .ref x :: st) bc bs hp Q ↔ RdL hp x i (fun v => Go kL_law 732 [a0, a1, a2, a3, a4, a5, a6, a7, a8] (.long v :: st) bc bs hp Q) := Go_lald rfl
set_option maxRecDepth 100000 in
theorem sL_law_732 {x : Int32} : Go kL_law 732 [a0, a1, a2, a3, a4, a5, a6, (.int x), a8] st bc bs hp Q ↔ Go kL_law 734 [a0, a1, a2, a3, a4, a5, a6, (.int x), a8] (.int x :: st) bc bs hp Q := Go_next (i := .iload 7) rfl rfl
set_option maxRecDepth 100000 in
theorem sL_law_734 {x : Int32} : Go kL_law 734 [a0, a1, a2, a3, a4, a5, a6, a7, a8] (.int x :: st) bc bs hp Q ↔ Go kL_law 735 [a0, a1, a2, a3, a4, a5, a6, a7, a8] (.long x.toInt64 :: st) bc bs hp Q := Go_next (i := .i2l) rfl rfl
set_option maxRecDepth 100000 in
theorem sL_law_735 {x y : Int64} : Go kL_law 735 [a0, a1, a2, a3, a4, a5, a6, a7, a8] (.long y :: .long x :: st) bc bs hp Q ↔ Go kL_law 736 [a0, a1, a2, a3, a4, a5, a6, a7, a8] (.int (lg_cmp x y) :: st) bc bs hp Q := Go_next (i := .lcmp) rfl rfl
set_option maxRecDepth 100000 in
theorem sL_law_736 {x : Int32} : Go kL_law 736 [a0, a1, a2, a3, a4, a5, a6, a7, a8] (.int x :: st) bc bs hp Q ↔ (x = 0 → Go kL_law 741 [a0, a1, a2, a3, a4, a5, a6, a7, a8] st bc bs hp Q) ∧ (¬ x = 0 → Go kL_law 739 [a0, a1, a2, a3, a4, a5, a6, a7, a8] st bc bs hp Q) := Go_ift (c := x = 0) (i := .ifCond .eq 5) rfl rfl
set_option maxRecDepth 100000 in
theorem sL_law_739 : Go kL_law 739 [a0, a1, a2, a3, a4, a5, a6, a7, a8] st bc bs hp Q ↔ Go kL_law 740 [a0, a1, a2, a3, a4, a5, a6, a7, a8] (.int 0 :: st) bc bs hp Q := Go_next (i := .iconst 0) rfl rfl
set_option maxRecDepth 100000 in
theorem sL_law_740 {x : Int32} : Go kL_law 740 [a0, a1, a2, a3, a4, a5, a6, a7, a8] [.int x] bc bs hp Q ↔ outI kL_law x = true ∧ Q (.inl (some (.int x))) hp := Go_retIf (i := .ireturn) rfl rfl
set_option maxRecDepth 100000 in
theorem sL_law_741 : Go kL_law 741 [a0, a1, a2, a3, a4, a5, a6, a7, a8] st bc bs hp Q ↔ Go kL_law 3086 [a0, a1, a2, a3, a4, a5, a6, a7, a8] st bc bs hp Q := Go_next (i := .goto 2345) rfl rfl
set_option maxRecDepth 100000 in
theorem sL_law_744 {x : Nat} : Go kL_law 744 [a0, (.ref x), a2, a3, a4, a5, a6, a7, a8] st bc bs hp Q ↔ Go kL_law 745 [a0, (.ref x), a2, a3, a4, a5, a6, a7, a8] (.ref x :: st) bc bs hp Q := Go_next (i := .aload_n 1) rfl rfl
set_option maxRecDepth 100000 in
theorem sL_law_745 {x : Nat} : Go kL_law 745 [(.ref x), a1, a2, a3, a4, a5, a6, a7, a8] st bc bs hp Q ↔ Go kL_law 746 [(.ref x), a1, a2, a3, a4, a5, a6, a7, a8] (.ref x :: st) bc bs hp Q := Go_next (i := .aload_n 0) rfl rfl
set_option maxRecDepth 100000 in
theorem sL_law_746 {x : Int32} : Go kL_law 746 [a0, a1, a2, a3, a4, (.int x), a6, a7, a8] st bc bs hp Q ↔ Go kL_law 748 [a0, a1, a2, a3, a4, (.int x), a6, a7, a8] (.int x :: st) bc bs hp Q := Go_next (i := .iload 5) rfl rfl
set_option maxRecDepth 100000 in
theorem sL_law_748 : Go kL_law 748 [a0, a1, a2, a3, a4, a5, a6, a7, a8] st bc bs hp Q ↔ Go kL_law 749 [a0, a1, a2, a3, a4, a5, a6, a7, a8] (.int 1 :: st) bc bs hp Q := Go_next (i := .iconst 1) rfl rfl
set_option maxRecDepth 100000 in
theorem sL_law_749 {x y : Int32} : Go kL_law 749 [a0, a1, a2, a3, a4, a5, a6, a7, a8] (.int y :: .int x :: st) bc bs hp Q ↔ Go kL_law 750 [a0, a1, a2, a3, a4, a5, a6, a7, a8] (.int (x + y) :: st) bc bs hp Q := Go_next (i := .iadd) rfl rfl
set_option maxRecDepth 100000 in
theorem sL_law_750 {x : Nat} {i : Int32} : Go kL_law 750 [a0, a1, a2, a3, a4, a5, a6, a7, a8] (.int i :: .ref x :: st) bc bs hp Q ↔ RdA hp x 0 i (fun v => Go kL_law 751 [a0, a1, a2, a3, a4, a5, a6, a7, a8] (.int v :: st) bc bs hp Q) := Go_iald rfl
set_option maxRecDepth 100000 in
theorem sL_law_751 {x : Nat} : Go kL_law 751 [(.ref x), a1, a2, a3, a4, a5, a6, a7, a8] st bc bs hp Q ↔ Go kL_law 752 [(.ref x), a1, a2, a3, a4, a5, a6, a7, a8] (.ref x :: st) bc bs hp Q := Go_next (i := .aload_n 0) rfl rfl
set_option maxRecDepth 100000 in
theorem sL_law_752 {x : Int32} : Go kL_law 752 [a0, a1, a2, a3, a4, (.int x), a6, a7, a8] st bc bs hp Q ↔ Go kL_law 754 [a0, a1, a2, a3, a4, (.int x), a6, a7, a8] (.int x :: st) bc bs hp Q := Go_next (i := .iload 5) rfl rfl
set_option maxRecDepth 100000 in
theorem sL_law_754 : Go kL_law 754 [a0, a1, a2, a3, a4, a5, a6, a7, a8] st bc bs hp Q ↔ Go kL_law 755 [a0, a1, a2, a3, a4, a5, a6, a7, a8] (.int 2 :: st) bc bs hp Q := Go_next (i := .iconst 2) rfl rfl
set_option maxRecDepth 100000 in
theorem sL_law_755 {x y : Int32} : Go kL_law 755 [a0, a1, a2, a3, a4, a5, a6, a7, a8] (.int y :: .int x :: st) bc bs hp Q ↔ Go kL_law 756 [a0, a1, a2, a3, a4, a5, a6, a7, a8] (.int (x + y) :: st) bc bs hp Q := Go_next (i := .iadd) rfl rfl
set_option maxRecDepth 100000 in
theorem sL_law_756 {x : Nat} {i : Int32} : Go kL_law 756 [a0, a1, a2, a3, a4, a5, a6, a7, a8] (.int i :: .ref x :: st) bc bs hp Q ↔ RdA hp x 0 i (fun v => Go kL_law 757 [a0, a1, a2, a3, a4, a5, a6, a7, a8] (.int v :: st) bc bs hp Q) := Go_iald rfl
set_option maxRecDepth 100000 in
theorem sL_law_757 {x : Nat} : Go kL_law 757 [(.ref x), a1, a2, a3, a4, a5, a6, a7, a8] st bc bs hp Q ↔ Go kL_law 758 [(.ref x), a1, a2, a3, a4, a5, a6, a7, a8] (.ref x :: st) bc bs hp Q := Go_next (i := .aload_n 0) rfl rfl
set_option maxRecDepth 100000 in
theorem sL_law_758 {x : Int32} : Go kL_law 758 [a0, a1, a2, a3, a4, (.int x), a6, a7, a8] st bc bs hp Q ↔ Go kL_law 760 [a0, a1, a2, a3, a4, (.int x), a6, a7, a8] (.int x :: st) bc bs hp Q := Go_next (i := .iload 5) rfl rfl
set_option maxRecDepth 100000 in
theorem sL_law_760 : Go kL_law 760 [a0, a1, a2, a3, a4, a5, a6, a7, a8] st bc bs hp Q ↔ Go kL_law 761 [a0, a1, a2, a3, a4, a5, a6, a7, a8] (.int 3 :: st) bc bs hp Q := Go_next (i := .iconst 3) rfl rfl
set_option maxRecDepth 100000 in
theorem sL_law_761 {x y : Int32} : Go kL_law 761 [a0, a1, a2, a3, a4, a5, a6, a7, a8] (.int y :: .int x :: st) bc bs hp Q ↔ Go kL_law 762 [a0, a1, a2, a3, a4, a5, a6, a7, a8] (.int (x + y) :: st) bc bs hp Q := Go_next (i := .iadd) rfl rfl
set_option maxRecDepth 100000 in
theorem sL_law_762 {x : Nat} {i : Int32} : Go kL_law 762 [a0, a1, a2, a3, a4, a5, a6, a7, a8] (.int i :: .ref x :: st) bc bs hp Q ↔ RdA hp x 0 i (fun v => Go kL_law 763 [a0, a1, a2, a3, a4, a5, a6, a7, a8] (.int v :: st) bc bs hp Q) := Go_iald rfl
set_option maxRecDepth 100000 in
theorem sL_law_763 {x : Nat} : Go kL_law 763 [(.ref x), a1, a2, a3, a4, a5, a6, a7, a8] st bc bs hp Q ↔ Go kL_law 764 [(.ref x), a1, a2, a3, a4, a5, a6, a7, a8] (.ref x :: st) bc bs hp Q := Go_next (i := .aload_n 0) rfl rfl
set_option maxRecDepth 100000 in
theorem sL_law_764 {x : Int32} : Go kL_law 764 [a0, a1, a2, a3, a4, (.int x), a6, a7, a8] st bc bs hp Q ↔ Go kL_law 766 [a0, a1, a2, a3, a4, (.int x), a6, a7, a8] (.int x :: st) bc bs hp Q := Go_next (i := .iload 5) rfl rfl
set_option maxRecDepth 100000 in
theorem sL_law_766 : Go kL_law 766 [a0, a1, a2, a3, a4, a5, a6, a7, a8] st bc bs hp Q ↔ Go kL_law 767 [a0, a1, a2, a3, a4, a5, a6, a7, a8] (.int 4 :: st) bc bs hp Q := Go_next (i := .iconst 4) rfl rfl
set_option maxRecDepth 100000 in
theorem sL_law_767 {x y : Int32} : Go kL_law 767 [a0, a1, a2, a3, a4, a5, a6, a7, a8] (.int y :: .int x :: st) bc bs hp Q ↔ Go kL_law 768 [a0, a1, a2, a3, a4, a5, a6, a7, a8] (.int (x + y) :: st) bc bs hp Q := Go_next (i := .iadd) rfl rfl
set_option maxRecDepth 100000 in
theorem sL_law_768 {x : Nat} {i : Int32} : Go kL_law 768 [a0, a1, a2, a3, a4, a5, a6, a7, a8] (.int i :: .ref x :: st) bc bs hp Q ↔ RdA hp x 0 i (fun v => Go kL_law 769 [a0, a1, a2, a3, a4, a5, a6, a7, a8] (.int v :: st) bc bs hp Q) := Go_iald rfl
set_option maxRecDepth 100000 in
theorem sL_law_769 {x : Nat} : Go kL_law 769 [a0, a1, a2, (.ref x), a4, a5, a6, a7, a8] st bc bs hp Q ↔ Go kL_law 770 [a0, a1, a2, (.ref x), a4, a5, a6, a7, a8] (.ref x :: st) bc bs hp Q := Go_next (i := .aload_n 3) rfl rfl
set_option maxRecDepth 100000 in
theorem sL_law_770 {p0 : Nat} {p1 : Int32} {p2 : Int32} {p3 : Int32} {p4 : Int32} {p5 : Nat} : Go kL_law 770 [a0, a1, a2, a3, a4, a5, a6, a7, a8] (.ref p5 :: .int p4 :: .int p3 :: .int p2 :: .int p1 :: .ref p0 :: st) bc bs hp Q ↔ (4 ≤ bc ∧ 24 ≤ bs ∧ nsum st ≤ 8) ∧ Call kL_fan [.ref p0, .int p1, .int p2, .int p3, .int p4, .ref p5] hp (Aft kL_law 773 [a0, a1, a2, a3, a4, a5, a6, a7, a8] st (bc - 4) (bs - 24) Q) := Go_inv (i := .invokestatic 187) rfl rfl rfl rfl rfl rfl
set_option maxRecDepth 100000 in
theorem sL_law_773 {x : Int32} (hj : a5.category = 1) : Go kL_law 773 [a0, a1, a2, a3, a4, a5, a6, a7, a8] (.int x :: st) bc bs hp Q ↔ Go kL_law 775 [a0, a1, a2, a3, a4, a5, (.int x), a7, a8] st bc bs hp Q := Go_sto (i := .istore 6) (j := 6) (v := .int x) rfl rfl (Nat.le_of_ble_eq_true rfl) (decide_eq_true hj) rfl
set_option maxRecDepth 100000 in
theorem sL_law_775 {x : Nat} : Go kL_law 775 [a0, a1, (.ref x), a3, a4, a5, a6, a7, a8] st bc bs hp Q ↔ Go kL_law 776 [a0, a1, (.ref x), a3, a4, a5, a6, a7, a8] (.ref x :: st) bc bs hp Q := Go_next (i := .aload_n 2) rfl rfl
set_option maxRecDepth 100000 in
theorem sL_law_776 {x : Nat} : Go kL_law 776 [(.ref x), a1, a2, a3, a4, a5, a6, a7, a8] st bc bs hp Q ↔ Go kL_law 777 [(.ref x), a1, a2, a3, a4, a5, a6, a7, a8] (.ref x :: st) bc bs hp Q := Go_next (i := .aload_n 0) rfl rfl
set_option maxRecDepth 100000 in
theorem sL_law_777 {x : Int32} : Go kL_law 777 [a0, a1, a2, a3, a4, (.int x), a6, a7, a8] st bc bs hp Q ↔ Go kL_law 779 [a0, a1, a2, a3, a4, (.int x), a6, a7, a8] (.int x :: st) bc bs hp Q := Go_next (i := .iload 5) rfl rfl
set_option maxRecDepth 100000 in
theorem sL_law_779 : Go kL_law 779 [a0, a1, a2, a3, a4, a5, a6, a7, a8] st bc bs hp Q ↔ Go kL_law 780 [a0, a1, a2, a3, a4, a5, a6, a7, a8] (.int 1 :: st) bc bs hp Q := Go_next (i := .iconst 1) rfl rfl
set_option maxRecDepth 100000 in
theorem sL_law_780 {x y : Int32} : Go kL_law 780 [a0, a1, a2, a3, a4, a5, a6, a7, a8] (.int y :: .int x :: st) bc bs hp Q ↔ Go kL_law 781 [a0, a1, a2, a3, a4, a5, a6, a7, a8] (.int (x + y) :: st) bc bs hp Q := Go_next (i := .iadd) rfl rfl
set_option maxRecDepth 100000 in
theorem sL_law_781 {x : Nat} {i : Int32} : Go kL_law 781 [a0, a1, a2, a3, a4, a5, a6, a7, a8] (.int i :: .ref x :: st) bc bs hp Q ↔ RdA hp x 0 i (fun v => Go kL_law 782 [a0, a1, a2, a3, a4, a5, a6, a7, a8] (.int v :: st) bc bs hp Q) := Go_iald rfl
set_option maxRecDepth 100000 in
theorem sL_law_782 {x : Nat} : Go kL_law 782 [(.ref x), a1, a2, a3, a4, a5, a6, a7, a8] st bc bs hp Q ↔ Go kL_law 783 [(.ref x), a1, a2, a3, a4, a5, a6, a7, a8] (.ref x :: st) bc bs hp Q := Go_next (i := .aload_n 0) rfl rfl
set_option maxRecDepth 100000 in
theorem sL_law_783 {x : Int32} : Go kL_law 783 [a0, a1, a2, a3, a4, (.int x), a6, a7, a8] st bc bs hp Q ↔ Go kL_law 785 [a0, a1, a2, a3, a4, (.int x), a6, a7, a8] (.int x :: st) bc bs hp Q := Go_next (i := .iload 5) rfl rfl
set_option maxRecDepth 100000 in
theorem sL_law_785 : Go kL_law 785 [a0, a1, a2, a3, a4, a5, a6, a7, a8] st bc bs hp Q ↔ Go kL_law 786 [a0, a1, a2, a3, a4, a5, a6, a7, a8] (.int 2 :: st) bc bs hp Q := Go_next (i := .iconst 2) rfl rfl
set_option maxRecDepth 100000 in
theorem sL_law_786 {x y : Int32} : Go kL_law 786 [a0, a1, a2, a3, a4, a5, a6, a7, a8] (.int y :: .int x :: st) bc bs hp Q ↔ Go kL_law 787 [a0, a1, a2, a3, a4, a5, a6, a7, a8] (.int (x + y) :: st) bc bs hp Q := Go_next (i := .iadd) rfl rfl
set_option maxRecDepth 100000 in
theorem sL_law_787 {x : Nat} {i : Int32} : Go kL_law 787 [a0, a1, a2, a3, a4, a5, a6, a7, a8] (.int i :: .ref x :: st) bc bs hp Q ↔ RdA hp x 0 i (fun v => Go kL_law 788 [a0, a1, a2, a3, a4, a5, a6, a7, a8] (.int v :: st) bc bs hp Q) := Go_iald rfl
set_option maxRecDepth 100000 in
theorem sL_law_788 {x : Nat} : Go kL_law 788 [(.ref x), a1, a2, a3, a4, a5, a6, a7, a8] st bc bs hp Q ↔ Go kL_law 789 [(.ref x), a1, a2, a3, a4, a5, a6, a7, a8] (.ref x :: st) bc bs hp Q := Go_next (i := .aload_n 0) rfl rfl
set_option maxRecDepth 100000 in
theorem sL_law_789 {x : Int32} : Go kL_law 789 [a0, a1, a2, a3, a4, (.int x), a6, a7, a8] st bc bs hp Q ↔ Go kL_law 791 [a0, a1, a2, a3, a4, (.int x), a6, a7, a8] (.int x :: st) bc bs hp Q := Go_next (i := .iload 5) rfl rfl
set_option maxRecDepth 100000 in
theorem sL_law_791 : Go kL_law 791 [a0, a1, a2, a3, a4, a5, a6, a7, a8] st bc bs hp Q ↔ Go kL_law 792 [a0, a1, a2, a3, a4, a5, a6, a7, a8] (.int 3 :: st) bc bs hp Q := Go_next (i := .iconst 3) rfl rfl
set_option maxRecDepth 100000 in
theorem sL_law_792 {x y : Int32} : Go kL_law 792 [a0, a1, a2, a3, a4, a5, a6, a7, a8] (.int y :: .int x :: st) bc bs hp Q ↔ Go kL_law 793 [a0, a1, a2, a3, a4, a5, a6, a7, a8] (.int (x + y) :: st) bc bs hp Q := Go_next (i := .iadd) rfl rfl
set_option maxRecDepth 100000 in
theorem sL_law_793 {x : Nat} {i : Int32} : Go kL_law 793 [a0, a1, a2, a3, a4, a5, a6, a7, a8] (.int i :: .ref x :: st) bc bs hp Q ↔ RdA hp x 0 i (fun v => Go kL_law 794 [a0, a1, a2, a3, a4, a5, a6, a7, a8] (.int v :: st) bc bs hp Q) := Go_iald rfl
set_option maxRecDepth 100000 in
theorem sL_law_794 {x : Nat} : Go kL_law 794 [(.ref x), a1, a2, a3, a4, a5, a6, a7, a8] st bc bs hp Q ↔ Go kL_law 795 [(.ref x), a1, a2, a3, a4, a5, a6, a7, a8] (.ref x :: st) bc bs hp Q := Go_next (i := .aload_n 0) rfl rfl
set_option maxRecDepth 100000 in
theorem sL_law_795 {x : Int32} : Go kL_law 795 [a0, a1, a2, a3, a4, (.int x), a6, a7, a8] st bc bs hp Q ↔ Go kL_law 797 [a0, a1, a2, a3, a4, (.int x), a6, a7, a8] (.int x :: st) bc bs hp Q := Go_next (i := .iload 5) rfl rfl
set_option maxRecDepth 100000 in
theorem sL_law_797 : Go kL_law 797 [a0, a1, a2, a3, a4, a5, a6, a7, a8] st bc bs hp Q ↔ Go kL_law 798 [a0, a1, a2, a3, a4, a5, a6, a7, a8] (.int 4 :: st) bc bs hp Q := Go_next (i := .iconst 4) rfl rfl
set_option maxRecDepth 100000 in
theorem sL_law_798 {x y : Int32} : Go kL_law 798 [a0, a1, a2, a3, a4, a5, a6, a7, a8] (.int y :: .int x :: st) bc bs hp Q ↔ Go kL_law 799 [a0, a1, a2, a3, a4, a5, a6, a7, a8] (.int (x + y) :: st) bc bs hp Q := Go_next (i := .iadd) rfl rfl
set_option maxRecDepth 100000 in
theorem sL_law_799 {x : Nat} {i : Int32} : Go kL_law 799 [a0, a1, a2, a3, a4, a5, a6, a7, a8] (.int i :: .ref x :: st) bc bs hp Q ↔ RdA hp x 0 i (fun v => Go kL_law 800 [a0, a1, a2, a3, a4, a5, a6, a7, a8] (.int v :: st) bc bs hp Q) := Go_iald rfl
set_option maxRecDepth 100000 in
theorem sL_law_800 {p0 : Int32} {p1 : Int32} {p2 : Int32} {p3 : Int32} {x : Nat} : Go kL_law 800 [a0, a1, a2, a3, a4, a5, a6, a7, a8] (.int p3 :: .int p2 :: .int p1 :: .int p0 :: .ref x :: st) bc bs hp Q ↔ Rcv hp x 8 ∧ nsum st ≤ 8 ∧ Call kX8_fan [.ref x, .int p0, .int p1, .int p2, .int p3] hp (Aft kL_law 803 [a0, a1, a2, a3, a4, a5, a6, a7, a8] st bc bs Q) := Go_invV0 rfl rfl rfl rfl rfl rfl rfl rfl rfl rfl
set_option maxRecDepth 100000 in
theorem sL_law_803 {x : Int32} (hj : a6.category = 1) : Go kL_law 803 [a0, a1, a2, a3, a4, a5, a6, a7, a8] (.int x :: st) bc bs hp Q ↔ Go kL_law 805 [a0, a1, a2, a3, a4, a5, a6, (.int x), a8] st bc bs hp Q := Go_sto (i := .istore 7) (j := 7) (v := .int x) rfl rfl (Nat.le_of_ble_eq_true rfl) (decide_eq_true hj) rfl
set_option maxRecDepth 100000 in
theorem sL_law_805 {x : Nat} : Go kL_law 805 [a0, a1, (.ref x), a3, a4, a5, a6, a7, a8] st bc bs hp Q ↔ Go kL_law 806 [a0, a1, (.ref x), a3, a4, a5, a6, a7, a8] (.ref x :: st) bc bs hp Q := Go_next (i := .aload_n 2) rfl rfl
set_option maxRecDepth 100000 in
theorem sL_law_806 {x : Nat} : Go kL_law 806 [a0, a1, a2, a3, a4, a5, a6, a7, a8] (.ref x :: st) bc bs hp Q ↔ Rcv hp x 8 ∧ nsum st ≤ 8 ∧ Call kX8_thrown [.ref x] hp (Aft kL_law 809 [a0, a1, a2, a3, a4, a5, a6, a7, a8] st bc bs Q) := Go_invV0 rfl rfl rfl rfl rfl rfl rfl rfl rfl rfl
set_option maxRecDepth 100000 in
theorem sL_law_809 {x : Int32} : Go kL_law 809 [a0, a1, a2, a3, a4, a5, (.int x), a7, a8] st bc bs hp Q ↔ Go kL_law 811 [a0, a1, a2, a3, a4, a5, (.int x), a7, a8] (.int x :: st) bc bs hp Q := Go_next (i := .iload 6) rfl rfl
set_option maxRecDepth 100000 in
theorem sL_law_811 {x y : Int32} : Go kL_law 811 [a0, a1, a2, a3, a4, a5, a6, a7, a8] (.int y :: .int x :: st) bc bs hp Q ↔ (x = y → Go kL_law 816 [a0, a1, a2, a3, a4, a5, a6, a7, a8] st bc bs hp Q) ∧ (¬ x = y → Go kL_law 814 [a0, a1, a2, a3, a4, a5, a6, a7, a8] st bc bs hp Q) := Go_ift (c := x = y) (i := .if_icmp .eq 5) rfl rfl
set_option maxRecDepth 100000 in
theorem sL_law_814 : Go kL_law 814 [a0, a1, a2, a3, a4, a5, a6, a7, a8] st bc bs hp Q ↔ Go kL_law 815 [a0, a1, a2, a3, a4, a5, a6, a7, a8] (.int 0 :: st) bc bs hp Q := Go_next (i := .iconst 0) rfl rfl
set_option maxRecDepth 100000 in
theorem sL_law_815 {x : Int32} : Go kL_law 815 [a0, a1, a2, a3, a4, a5, a6, a7, a8] [.int x] bc bs hp Q ↔ outI kL_law x = true ∧ Q (.inl (some (.int x))) hp := Go_retIf (i := .ireturn) rfl rfl
set_option maxRecDepth 100000 in
theorem sL_law_816 {x : Int32} : Go kL_law 816 [a0, a1, a2, a3, a4, a5, (.int x), a7, a8] st bc bs hp Q ↔ Go kL_law 818 [a0, a1, a2, a3, a4, a5, (.int x), a7, a8] (.int x :: st) bc bs hp Q := Go_next (i := .iload 6) rfl rfl
set_option maxRecDepth 100000 in
theorem sL_law_818 {x : Int32} : Go kL_law 818 [a0, a1, a2, a3, a4, a5, a6, a7, a8] (.int x :: st) bc bs hp Q ↔ (¬ x = 0 → Go kL_law 833 [a0, a1, a2, a3, a4, a5, a6, a7, a8] st bc bs hp Q) ∧ (x = 0 → Go kL_law 821 [a0, a1, a2, a3, a4, a5, a6, a7, a8] st bc bs hp Q) := Go_ifn (c := x = 0) (i := .ifCond .ne 15) rfl rfl
set_option maxRecDepth 100000 in
theorem sL_law_821 {x : Nat} : Go kL_law 821 [a0, a1, a2, (.ref x), a4, a5, a6, a7, a8] st bc bs hp Q ↔ Go kL_law 822 [a0, a1, a2, (.ref x), a4, a5, a6, a7, a8] (.ref x :: st) bc bs hp Q := Go_next (i := .aload_n 3) rfl rfl
set_option maxRecDepth 100000 in
theorem sL_law_822 : Go kL_law 822 [a0, a1, a2, a3, a4, a5, a6, a7, a8] st bc bs hp Q ↔ Go kL_law 823 [a0, a1, a2, a3, a4, a5, a6, a7, a8] (.int 0 :: st) bc bs hp Q := Go_next (i := .iconst 0) rfl rfl
set_option maxRecDepth 100000 in
theorem sL_law_823 {x : Nat} {i : Int32} : Go kL_law 823 [a0, a1, a2, a3, a4, a5, a6, a7, a8] (.int i :: .ref x :: st) bc bs hp Q ↔ RdL hp x i (fun v => Go kL_law 824 [a0, a1, a2, a3, a4, a5, a6, a7, a8] (.long v :: st) bc bs hp Q) := Go_lald rfl
set_option maxRecDepth 100000 in
theorem sL_law_824 {x : Int32} : Go kL_law 824 [a0, a1, a2, a3, a4, a5, a6, (.int x), a8] st bc bs hp Q ↔ Go kL_law 826 [a0, a1, a2, a3, a4, a5, a6, (.int x), a8] (.int x :: st) bc bs hp Q := Go_next (i := .iload 7) rfl rfl
set_option maxRecDepth 100000 in
theorem sL_law_826 {x : Int32} : Go kL_law 826 [a0, a1, a2, a3, a4, a5, a6, a7, a8] (.int x :: st) bc bs hp Q ↔ Go kL_law 827 [a0, a1, a2, a3, a4, a5, a6, a7, a8] (.long x.toInt64 :: st) bc bs hp Q := Go_next (i := .i2l) rfl rfl
set_option maxRecDepth 100000 in
theorem sL_law_827 {x y : Int64} : Go kL_law 827 [a0, a1, a2, a3, a4, a5, a6, a7, a8] (.long y :: .long x :: st) bc bs hp Q ↔ Go kL_law 828 [a0, a1, a2, a3, a4, a5, a6, a7, a8] (.int (lg_cmp x y) :: st) bc bs hp Q := Go_next (i := .lcmp) rfl rfl
set_option maxRecDepth 100000 in
theorem sL_law_828 {x : Int32} : Go kL_law 828 [a0, a1, a2, a3, a4, a5, a6, a7, a8] (.int x :: st) bc bs hp Q ↔ (x = 0 → Go kL_law 833 [a0, a1, a2, a3, a4, a5, a6, a7, a8] st bc bs hp Q) ∧ (¬ x = 0 → Go kL_law 831 [a0, a1, a2, a3, a4, a5, a6, a7, a8] st bc bs hp Q) := Go_ift (c := x = 0) (i := .ifCond .eq 5) rfl rfl
set_option maxRecDepth 100000 in
theorem sL_law_831 : Go kL_law 831 [a0, a1, a2, a3, a4, a5, a6, a7, a8] st bc bs hp Q ↔ Go kL_law 832 [a0, a1, a2, a3, a4, a5, a6, a7, a8] (.int 0 :: st) bc bs hp Q := Go_next (i := .iconst 0) rfl rfl
set_option maxRecDepth 100000 in
theorem sL_law_832 {x : Int32} : Go kL_law 832 [a0, a1, a2, a3, a4, a5, a6, a7, a8] [.int x] bc bs hp Q ↔ outI kL_law x = true ∧ Q (.inl (some (.int x))) hp := Go_retIf (i := .ireturn) rfl rfl
set_option maxRecDepth 100000 in
theorem sL_law_833 : Go kL_law 833 [a0, a1, a2, a3, a4, a5, a6, a7, a8] st bc bs hp Q ↔ Go kL_law 3086 [a0, a1, a2, a3, a4, a5, a6, a7, a8] st bc bs hp Q := Go_next (i := .goto 2253) rfl rfl
set_option maxRecDepth 100000 in
theorem sL_law_836 {x : Nat} : Go kL_law 836 [a0, (.ref x), a2, a3, a4, a5, a6, a7, a8] st bc bs hp Q ↔ Go kL_law 837 [a0, (.ref x), a2, a3, a4, a5, a6, a7, a8] (.ref x :: st) bc bs hp Q := Go_next (i := .aload_n 1) rfl rfl
set_option maxRecDepth 100000 in
theorem sL_law_837 {x : Nat} : Go kL_law 837 [(.ref x), a1, a2, a3, a4, a5, a6, a7, a8] st bc bs hp Q ↔ Go kL_law 838 [(.ref x), a1, a2, a3, a4, a5, a6, a7, a8] (.ref x :: st) bc bs hp Q := Go_next (i := .aload_n 0) rfl rfl
set_option maxRecDepth 100000 in
theorem sL_law_838 {x : Int32} : Go kL_law 838 [a0, a1, a2, a3, a4, (.int x), a6, a7, a8] st bc bs hp Q ↔ Go kL_law 840 [a0, a1, a2, a3, a4, (.int x), a6, a7, a8] (.int x :: st) bc bs hp Q := Go_next (i := .iload 5) rfl rfl
set_option maxRecDepth 100000 in
theorem sL_law_840 : Go kL_law 840 [a0, a1, a2, a3, a4, a5, a6, a7, a8] st bc bs hp Q ↔ Go kL_law 841 [a0, a1, a2, a3, a4, a5, a6, a7, a8] (.int 1 :: st) bc bs hp Q := Go_next (i := .iconst 1) rfl rfl
set_option maxRecDepth 100000 in
theorem sL_law_841 {x y : Int32} : Go kL_law 841 [a0, a1, a2, a3, a4, a5, a6, a7, a8] (.int y :: .int x :: st) bc bs hp Q ↔ Go kL_law 842 [a0, a1, a2, a3, a4, a5, a6, a7, a8] (.int (x + y) :: st) bc bs hp Q := Go_next (i := .iadd) rfl rfl
set_option maxRecDepth 100000 in
theorem sL_law_842 {x : Nat} {i : Int32} : Go kL_law 842 [a0, a1, a2, a3, a4, a5, a6, a7, a8] (.int i :: .ref x :: st) bc bs hp Q ↔ RdA hp x 0 i (fun v => Go kL_law 843 [a0, a1, a2, a3, a4, a5, a6, a7, a8] (.int v :: st) bc bs hp Q) := Go_iald rfl
set_option maxRecDepth 100000 in
theorem sL_law_843 {x : Nat} : Go kL_law 843 [(.ref x), a1, a2, a3, a4, a5, a6, a7, a8] st bc bs hp Q ↔ Go kL_law 844 [(.ref x), a1, a2, a3, a4, a5, a6, a7, a8] (.ref x :: st) bc bs hp Q := Go_next (i := .aload_n 0) rfl rfl
set_option maxRecDepth 100000 in
theorem sL_law_844 {x : Int32} : Go kL_law 844 [a0, a1, a2, a3, a4, (.int x), a6, a7, a8] st bc bs hp Q ↔ Go kL_law 846 [a0, a1, a2, a3, a4, (.int x), a6, a7, a8] (.int x :: st) bc bs hp Q := Go_next (i := .iload 5) rfl rfl
set_option maxRecDepth 100000 in
theorem sL_law_846 : Go kL_law 846 [a0, a1, a2, a3, a4, a5, a6, a7, a8] st bc bs hp Q ↔ Go kL_law 847 [a0, a1, a2, a3, a4, a5, a6, a7, a8] (.int 2 :: st) bc bs hp Q := Go_next (i := .iconst 2) rfl rfl
set_option maxRecDepth 100000 in
theorem sL_law_847 {x y : Int32} : Go kL_law 847 [a0, a1, a2, a3, a4, a5, a6, a7, a8] (.int y :: .int x :: st) bc bs hp Q ↔ Go kL_law 848 [a0, a1, a2, a3, a4, a5, a6, a7, a8] (.int (x + y) :: st) bc bs hp Q := Go_next (i := .iadd) rfl rfl
set_option maxRecDepth 100000 in
theorem sL_law_848 {x : Nat} {i : Int32} : Go kL_law 848 [a0, a1, a2, a3, a4, a5, a6, a7, a8] (.int i :: .ref x :: st) bc bs hp Q ↔ RdA hp x 0 i (fun v => Go kL_law 849 [a0, a1, a2, a3, a4, a5, a6, a7, a8] (.int v :: st) bc bs hp Q) := Go_iald rfl
set_option maxRecDepth 100000 in
theorem sL_law_849 {x : Nat} : Go kL_law 849 [a0, a1, a2, (.ref x), a4, a5, a6, a7, a8] st bc bs hp Q ↔ Go kL_law 850 [a0, a1, a2, (.ref x), a4, a5, a6, a7, a8] (.ref x :: st) bc bs hp Q := Go_next (i := .aload_n 3) rfl rfl
set_option maxRecDepth 100000 in
theorem sL_law_850 {p0 : Nat} {p1 : Int32} {p2 : Int32} {p3 : Nat} : Go kL_law 850 [a0, a1, a2, a3, a4, a5, a6, a7, a8] (.ref p3 :: .int p2 :: .int p1 :: .ref p0 :: st) bc bs hp Q ↔ (3 ≤ bc ∧ 18 ≤ bs ∧ nsum st ≤ 8) ∧ Call kL_knockOut [.ref p0, .int p1, .int p2, .ref p3] hp (Aft kL_law 853 [a0, a1, a2, a3, a4, a5, a6, a7, a8] st (bc - 3) (bs - 18) Q) := Go_inv (i := .invokestatic 191) rfl rfl rfl rfl rfl rfl
set_option maxRecDepth 100000 in
theorem sL_law_853 {x : Int32} (hj : a5.category = 1) : Go kL_law 853 [a0, a1, a2, a3, a4, a5, a6, a7, a8] (.int x :: st) bc bs hp Q ↔ Go kL_law 855 [a0, a1, a2, a3, a4, a5, (.int x), a7, a8] st bc bs hp Q := Go_sto (i := .istore 6) (j := 6) (v := .int x) rfl rfl (Nat.le_of_ble_eq_true rfl) (decide_eq_true hj) rfl
set_option maxRecDepth 100000 in
theorem sL_law_855 {x : Nat} : Go kL_law 855 [a0, a1, (.ref x), a3, a4, a5, a6, a7, a8] st bc bs hp Q ↔ Go kL_law 856 [a0, a1, (.ref x), a3, a4, a5, a6, a7, a8] (.ref x :: st) bc bs hp Q := Go_next (i := .aload_n 2) rfl rfl
set_option maxRecDepth 100000 in
theorem sL_law_856 {x : Nat} : Go kL_law 856 [(.ref x), a1, a2, a3, a4, a5, a6, a7, a8] st bc bs hp Q ↔ Go kL_law 857 [(.ref x), a1, a2, a3, a4, a5, a6, a7, a8] (.ref x :: st) bc bs hp Q := Go_next (i := .aload_n 0) rfl rfl
set_option maxRecDepth 100000 in
theorem sL_law_857 {x : Int32} : Go kL_law 857 [a0, a1, a2, a3, a4, (.int x), a6, a7, a8] st bc bs hp Q ↔ Go kL_law 859 [a0, a1, a2, a3, a4, (.int x), a6, a7, a8] (.int x :: st) bc bs hp Q := Go_next (i := .iload 5) rfl rfl
set_option maxRecDepth 100000 in
theorem sL_law_859 : Go kL_law 859 [a0, a1, a2, a3, a4, a5, a6, a7, a8] st bc bs hp Q ↔ Go kL_law 860 [a0, a1, a2, a3, a4, a5, a6, a7, a8] (.int 1 :: st) bc bs hp Q := Go_next (i := .iconst 1) rfl rfl
set_option maxRecDepth 100000 in
theorem sL_law_860 {x y : Int32} : Go kL_law 860 [a0, a1, a2, a3, a4, a5, a6, a7, a8] (.int y :: .int x :: st) bc bs hp Q ↔ Go kL_law 861 [a0, a1, a2, a3, a4, a5, a6, a7, a8] (.int (x + y) :: st) bc bs hp Q := Go_next (i := .iadd) rfl rfl
set_option maxRecDepth 100000 in
theorem sL_law_861 {x : Nat} {i : Int32} : Go kL_law 861 [a0, a1, a2, a3, a4, a5, a6, a7, a8] (.int i :: .ref x :: st) bc bs hp Q ↔ RdA hp x 0 i (fun v => Go kL_law 862 [a0, a1, a2, a3, a4, a5, a6, a7, a8] (.int v :: st) bc bs hp Q) := Go_iald rfl
set_option maxRecDepth 100000 in
theorem sL_law_862 {x : Nat} : Go kL_law 862 [(.ref x), a1, a2, a3, a4, a5, a6, a7, a8] st bc bs hp Q ↔ Go kL_law 863 [(.ref x), a1, a2, a3, a4, a5, a6, a7, a8] (.ref x :: st) bc bs hp Q := Go_next (i := .aload_n 0) rfl rfl
set_option maxRecDepth 100000 in
theorem sL_law_863 {x : Int32} : Go kL_law 863 [a0, a1, a2, a3, a4, (.int x), a6, a7, a8] st bc bs hp Q ↔ Go kL_law 865 [a0, a1, a2, a3, a4, (.int x), a6, a7, a8] (.int x :: st) bc bs hp Q := Go_next (i := .iload 5) rfl rfl
set_option maxRecDepth 100000 in
theorem sL_law_865 : Go kL_law 865 [a0, a1, a2, a3, a4, a5, a6, a7, a8] st bc bs hp Q ↔ Go kL_law 866 [a0, a1, a2, a3, a4, a5, a6, a7, a8] (.int 2 :: st) bc bs hp Q := Go_next (i := .iconst 2) rfl rfl
set_option maxRecDepth 100000 in
theorem sL_law_866 {x y : Int32} : Go kL_law 866 [a0, a1, a2, a3, a4, a5, a6, a7, a8] (.int y :: .int x :: st) bc bs hp Q ↔ Go kL_law 867 [a0, a1, a2, a3, a4, a5, a6, a7, a8] (.int (x + y) :: st) bc bs hp Q := Go_next (i := .iadd) rfl rfl
set_option maxRecDepth 100000 in
theorem sL_law_867 {x : Nat} {i : Int32} : Go kL_law 867 [a0, a1, a2, a3, a4, a5, a6, a7, a8] (.int i :: .ref x :: st) bc bs hp Q ↔ RdA hp x 0 i (fun v => Go kL_law 868 [a0, a1, a2, a3, a4, a5, a6, a7, a8] (.int v :: st) bc bs hp Q) := Go_iald rfl
set_option maxRecDepth 100000 in
theorem sL_law_868 {p0 : Int32} {p1 : Int32} {x : Nat} : Go kL_law 868 [a0, a1, a2, a3, a4, a5, a6, a7, a8] (.int p1 :: .int p0 :: .ref x :: st) bc bs hp Q ↔ Rcv hp x 8 ∧ nsum st ≤ 8 ∧ Call kX8_knockOut [.ref x, .int p0, .int p1] hp (Aft kL_law 871 [a0, a1, a2, a3, a4, a5, a6, a7, a8] st bc bs Q) := Go_invV0 rfl rfl rfl rfl rfl rfl rfl rfl rfl rfl
set_option maxRecDepth 100000 in
theorem sL_law_871 {x : Int32} (hj : a6.category = 1) : Go kL_law 871 [a0, a1, a2, a3, a4, a5, a6, a7, a8] (.int x :: st) bc bs hp Q ↔ Go kL_law 873 [a0, a1, a2, a3, a4, a5, a6, (.int x), a8] st bc bs hp Q := Go_sto (i := .istore 7) (j := 7) (v := .int x) rfl rfl (Nat.le_of_ble_eq_true rfl) (decide_eq_true hj) rfl
set_option maxRecDepth 100000 in
theorem sL_law_873 {x : Nat} : Go kL_law 873 [a0, a1, (.ref x), a3, a4, a5, a6, a7, a8] st bc bs hp Q ↔ Go kL_law 874 [a0, a1, (.ref x), a3, a4, a5, a6, a7, a8] (.ref x :: st) bc bs hp Q := Go_next (i := .aload_n 2) rfl rfl
set_option maxRecDepth 100000 in
theorem sL_law_874 {x : Nat} : Go kL_law 874 [a0, a1, a2, a3, a4, a5, a6, a7, a8] (.ref x :: st) bc bs hp Q ↔ Rcv hp x 8 ∧ nsum st ≤ 8 ∧ Call kX8_thrown [.ref x] hp (Aft kL_law 877 [a0, a1, a2, a3, a4, a5, a6, a7, a8] st bc bs Q) := Go_invV0 rfl rfl rfl rfl rfl rfl rfl rfl rfl rfl
set_option maxRecDepth 100000 in
theorem sL_law_877 {x : Int32} : Go kL_law 877 [a0, a1, a2, a3, a4, a5, (.int x), a7, a8] st bc bs hp Q ↔ Go kL_law 879 [a0, a1, a2, a3, a4, a5, (.int x), a7, a8] (.int x :: st) bc bs hp Q := Go_next (i := .iload 6) rfl rfl
set_option maxRecDepth 100000 in
theorem sL_law_879 {x y : Int32} : Go kL_law 879 [a0, a1, a2, a3, a4, a5, a6, a7, a8] (.int y :: .int x :: st) bc bs hp Q ↔ (x = y → Go kL_law 884 [a0, a1, a2, a3, a4, a5, a6, a7, a8] st bc bs hp Q) ∧ (¬ x = y → Go kL_law 882 [a0, a1, a2, a3, a4, a5, a6, a7, a8] st bc bs hp Q) := Go_ift (c := x = y) (i := .if_icmp .eq 5) rfl rfl
set_option maxRecDepth 100000 in
theorem sL_law_882 : Go kL_law 882 [a0, a1, a2, a3, a4, a5, a6, a7, a8] st bc bs hp Q ↔ Go kL_law 883 [a0, a1, a2, a3, a4, a5, a6, a7, a8] (.int 0 :: st) bc bs hp Q := Go_next (i := .iconst 0) rfl rfl
set_option maxRecDepth 100000 in
theorem sL_law_883 {x : Int32} : Go kL_law 883 [a0, a1, a2, a3, a4, a5, a6, a7, a8] [.int x] bc bs hp Q ↔ outI kL_law x = true ∧ Q (.inl (some (.int x))) hp := Go_retIf (i := .ireturn) rfl rfl
set_option maxRecDepth 100000 in
theorem sL_law_884 {x : Int32} : Go kL_law 884 [a0, a1, a2, a3, a4, a5, (.int x), a7, a8] st bc bs hp Q ↔ Go kL_law 886 [a0, a1, a2, a3, a4, a5, (.int x), a7, a8] (.int x :: st) bc bs hp Q := Go_next (i := .iload 6) rfl rfl
set_option maxRecDepth 100000 in
theorem sL_law_886 {x : Int32} : Go kL_law 886 [a0, a1, a2, a3, a4, a5, a6, a7, a8] (.int x :: st) bc bs hp Q ↔ (¬ x = 0 → Go kL_law 901 [a0, a1, a2, a3, a4, a5, a6, a7, a8] st bc bs hp Q) ∧ (x = 0 → Go kL_law 889 [a0, a1, a2, a3, a4, a5, a6, a7, a8] st bc bs hp Q) := Go_ifn (c := x = 0) (i := .ifCond .ne 15) rfl rfl
set_option maxRecDepth 100000 in
theorem sL_law_889 {x : Nat} : Go kL_law 889 [a0, a1, a2, (.ref x), a4, a5, a6, a7, a8] st bc bs hp Q ↔ Go kL_law 890 [a0, a1, a2, (.ref x), a4, a5, a6, a7, a8] (.ref x :: st) bc bs hp Q := Go_next (i := .aload_n 3) rfl rfl
set_option maxRecDepth 100000 in
theorem sL_law_890 : Go kL_law 890 [a0, a1, a2, a3, a4, a5, a6, a7, a8] st bc bs hp Q ↔ Go kL_law 891 [a0, a1, a2, a3, a4, a5, a6, a7, a8] (.int 0 :: st) bc bs hp Q := Go_next (i := .iconst 0) rfl rfl
set_option maxRecDepth 100000 in
theorem sL_law_891 {x : Nat} {i : Int32} : Go kL_law 891 [a0, a1, a2, a3, a4, a5, a6, a7, a8] (.int i :: .ref x :: st) bc bs hp Q ↔ RdL hp x i (fun v => Go kL_law 892 [a0, a1, a2, a3, a4, a5, a6, a7, a8] (.long v :: st) bc bs hp Q) := Go_lald rfl
set_option maxRecDepth 100000 in
theorem sL_law_892 {x : Int32} : Go kL_law 892 [a0, a1, a2, a3, a4, a5, a6, (.int x), a8] st bc bs hp Q ↔ Go kL_law 894 [a0, a1, a2, a3, a4, a5, a6, (.int x), a8] (.int x :: st) bc bs hp Q := Go_next (i := .iload 7) rfl rfl
set_option maxRecDepth 100000 in
theorem sL_law_894 {x : Int32} : Go kL_law 894 [a0, a1, a2, a3, a4, a5, a6, a7, a8] (.int x :: st) bc bs hp Q ↔ Go kL_law 895 [a0, a1, a2, a3, a4, a5, a6, a7, a8] (.long x.toInt64 :: st) bc bs hp Q := Go_next (i := .i2l) rfl rfl
set_option maxRecDepth 100000 in
theorem sL_law_895 {x y : Int64} : Go kL_law 895 [a0, a1, a2, a3, a4, a5, a6, a7, a8] (.long y :: .long x :: st) bc bs hp Q ↔ Go kL_law 896 [a0, a1, a2, a3, a4, a5, a6, a7, a8] (.int (lg_cmp x y) :: st) bc bs hp Q := Go_next (i := .lcmp) rfl rfl
set_option maxRecDepth 100000 in
theorem sL_law_896 {x : Int32} : Go kL_law 896 [a0, a1, a2, a3, a4, a5, a6, a7, a8] (.int x :: st) bc bs hp Q ↔ (x = 0 → Go kL_law 901 [a0, a1, a2, a3, a4, a5, a6, a7, a8] st bc bs hp Q) ∧ (¬ x = 0 → Go kL_law 899 [a0, a1, a2, a3, a4, a5, a6, a7, a8] st bc bs hp Q) := Go_ift (c := x = 0) (i := .ifCond .eq 5) rfl rfl
set_option maxRecDepth 100000 in
theorem sL_law_899 : Go kL_law 899 [a0, a1, a2, a3, a4, a5, a6, a7, a8] st bc bs hp Q ↔ Go kL_law 900 [a0, a1, a2, a3, a4, a5, a6, a7, a8] (.int 0 :: st) bc bs hp Q := Go_next (i := .iconst 0) rfl rfl
set_option maxRecDepth 100000 in
theorem sL_law_900 {x : Int32} : Go kL_law 900 [a0, a1, a2, a3, a4, a5, a6, a7, a8] [.int x] bc bs hp Q ↔ outI kL_law x = true ∧ Q (.inl (some (.int x))) hp := Go_retIf (i := .ireturn) rfl rfl
set_option maxRecDepth 100000 in
theorem sL_law_901 : Go kL_law 901 [a0, a1, a2, a3, a4, a5, a6, a7, a8] st bc bs hp Q ↔ Go kL_law 3086 [a0, a1, a2, a3, a4, a5, a6, a7, a8] st bc bs hp Q := Go_next (i := .goto 2185) rfl rfl
set_option maxRecDepth 100000 in
theorem sL_law_904 {x : Nat} : Go kL_law 904 [a0, (.ref x), a2, a3, a4, a5, a6, a7, a8] st bc bs hp Q ↔ Go kL_law 905 [a0, (.ref x), a2, a3, a4, a5, a6, a7, a8] (.ref x :: st) bc bs hp Q := Go_next (i := .aload_n 1) rfl rfl
set_option maxRecDepth 100000 in
theorem sL_law_905 {x : Nat} : Go kL_law 905 [a0, a1, a2, a3, a4, a5, a6, a7, a8] (.ref x :: st) bc bs hp Q ↔ Rcv hp x 7 ∧ nsum st ≤ 8 ∧ Call kX7_clear [.ref x] hp (Aft kL_law 908 [a0, a1, a2, a3, a4, a5, a6, a7, a8] st bc bs Q) := Go_invV0 rfl rfl rfl rfl rfl rfl rfl rfl rfl rfl
set_option maxRecDepth 100000 in
theorem sL_law_908 {x : Nat} : Go kL_law 908 [a0, a1, (.ref x), a3, a4, a5, a6, a7, a8] st bc bs hp Q ↔ Go kL_law 909 [a0, a1, (.ref x), a3, a4, a5, a6, a7, a8] (.ref x :: st) bc bs hp Q := Go_next (i := .aload_n 2) rfl rfl
set_option maxRecDepth 100000 in
theorem sL_law_909 {x : Nat} : Go kL_law 909 [a0, a1, a2, a3, a4, a5, a6, a7, a8] (.ref x :: st) bc bs hp Q ↔ Rcv hp x 8 ∧ nsum st ≤ 8 ∧ Call kX8_clear [.ref x] hp (Aft kL_law 912 [a0, a1, a2, a3, a4, a5, a6, a7, a8] st bc bs Q) := Go_invV0 rfl rfl rfl rfl rfl rfl rfl rfl rfl rfl
set_option maxRecDepth 100000 in
theorem sL_law_912 {x y : Int32} : Go kL_law 912 [a0, a1, a2, a3, a4, a5, a6, a7, a8] (.int y :: .int x :: st) bc bs hp Q ↔ (x = y → Go kL_law 3086 [a0, a1, a2, a3, a4, a5, a6, a7, a8] st bc bs hp Q) ∧ (¬ x = y → Go kL_law 915 [a0, a1, a2, a3, a4, a5, a6, a7, a8] st bc bs hp Q) := Go_ift (c := x = y) (i := .if_icmp .eq 2174) rfl rfl
set_option maxRecDepth 100000 in
theorem sL_law_915 : Go kL_law 915 [a0, a1, a2, a3, a4, a5, a6, a7, a8] st bc bs hp Q ↔ Go kL_law 916 [a0, a1, a2, a3, a4, a5, a6, a7, a8] (.int 0 :: st) bc bs hp Q := Go_next (i := .iconst 0) rfl rfl
set_option maxRecDepth 100000 in
theorem sL_law_916 {x : Int32} : Go kL_law 916 [a0, a1, a2, a3, a4, a5, a6, a7, a8] [.int x] bc bs hp Q ↔ outI kL_law x = true ∧ Q (.inl (some (.int x))) hp := Go_retIf (i := .ireturn) rfl rfl
set_option maxRecDepth 100000 in
theorem sL_law_917 {x : Nat} : Go kL_law 917 [a0, (.ref x), a2, a3, a4, a5, a6, a7, a8] st bc bs hp Q ↔ Go kL_law 918 [a0, (.ref x), a2, a3, a4, a5, a6, a7, a8] (.ref x :: st) bc bs hp Q := Go_next (i := .aload_n 1) rfl rfl
set_option maxRecDepth 100000 in
theorem sL_law_918 {x : Nat} : Go kL_law 918 [(.ref x), a1, a2, a3, a4, a5, a6, a7, a8] st bc bs hp Q ↔ Go kL_law 919 [(.ref x), a1, a2, a3, a4, a5, a6, a7, a8] (.ref x :: st) bc bs hp Q := Go_next (i := .aload_n 0) rfl rfl
set_option maxRecDepth 100000 in
theorem sL_law_919 {x : Int32} : Go kL_law 919 [a0, a1, a2, a3, a4, (.int x), a6, a7, a8] st bc bs hp Q ↔ Go kL_law 921 [a0, a1, a2, a3, a4, (.int x), a6, a7, a8] (.int x :: st) bc bs hp Q := Go_next (i := .iload 5) rfl rfl
set_option maxRecDepth 100000 in
theorem sL_law_921 : Go kL_law 921 [a0, a1, a2, a3, a4, a5, a6, a7, a8] st bc bs hp Q ↔ Go kL_law 922 [a0, a1, a2, a3, a4, a5, a6, a7, a8] (.int 1 :: st) bc bs hp Q := Go_next (i := .iconst 1) rfl rfl
set_option maxRecDepth 100000 in
theorem sL_law_922 {x y : Int32} : Go kL_law 922 [a0, a1, a2, a3, a4, a5, a6, a7, a8] (.int y :: .int x :: st) bc bs hp Q ↔ Go kL_law 923 [a0, a1, a2, a3, a4, a5, a6, a7, a8] (.int (x + y) :: st) bc bs hp Q := Go_next (i := .iadd) rfl rfl
set_option maxRecDepth 100000 in
theorem sL_law_923 {x : Nat} {i : Int32} : Go kL_law 923 [a0, a1, a2, a3, a4, a5, a6, a7, a8] (.int i :: .ref x :: st) bc bs hp Q ↔ RdA hp x 0 i (fun v => Go kL_law 924 [a0, a1, a2, a3, a4, a5, a6, a7, a8] (.int v :: st) bc bs hp Q) := Go_iald rfl
set_option maxRecDepth 100000 in
theorem sL_law_924 {x : Nat} : Go kL_law 924 [a0, a1, a2, (.ref x), a4, a5, a6, a7, a8] st bc bs hp Q ↔ Go kL_law 925 [a0, a1, a2, (.ref x), a4, a5, a6, a7, a8] (.ref x :: st) bc bs hp Q := Go_next (i := .aload_n 3) rfl rfl
set_option maxRecDepth 100000 in
theorem sL_law_925 {p0 : Nat} {p1 : Int32} {p2 : Nat} : Go kL_law 925 [a0, a1, a2, a3, a4, a5, a6, a7, a8] (.ref p2 :: .int p1 :: .ref p0 :: st) bc bs hp Q ↔ (2 ≤ bc ∧ 12 ≤ bs ∧ nsum st ≤ 8) ∧ Call kL_record [.ref p0, .int p1, .ref p2] hp (Aft kL_law 928 [a0, a1, a2, a3, a4, a5, a6, a7, a8] st (bc - 2) (bs - 12) Q) := Go_inv (i := .invokestatic 198) rfl rfl rfl rfl rfl rfl
set_option maxRecDepth 100000 in
theorem sL_law_928 {x : Int32} (hj : a5.category = 1) : Go kL_law 928 [a0, a1, a2, a3, a4, a5, a6, a7, a8] (.int x :: st) bc bs hp Q ↔ Go kL_law 930 [a0, a1, a2, a3, a4, a5, (.int x), a7, a8] st bc bs hp Q := Go_sto (i := .istore 6) (j := 6) (v := .int x) rfl rfl (Nat.le_of_ble_eq_true rfl) (decide_eq_true hj) rfl
set_option maxRecDepth 100000 in
theorem sL_law_930 {x : Nat} : Go kL_law 930 [a0, a1, (.ref x), a3, a4, a5, a6, a7, a8] st bc bs hp Q ↔ Go kL_law 931 [a0, a1, (.ref x), a3, a4, a5, a6, a7, a8] (.ref x :: st) bc bs hp Q := Go_next (i := .aload_n 2) rfl rfl
set_option maxRecDepth 100000 in
theorem sL_law_931 {x : Nat} : Go kL_law 931 [(.ref x), a1, a2, a3, a4, a5, a6, a7, a8] st bc bs hp Q ↔ Go kL_law 932 [(.ref x), a1, a2, a3, a4, a5, a6, a7, a8] (.ref x :: st) bc bs hp Q := Go_next (i := .aload_n 0) rfl rfl
set_option maxRecDepth 100000 in
theorem sL_law_932 {x : Int32} : Go kL_law 932 [a0, a1, a2, a3, a4, (.int x), a6, a7, a8] st bc bs hp Q ↔ Go kL_law 934 [a0, a1, a2, a3, a4, (.int x), a6, a7, a8] (.int x :: st) bc bs hp Q := Go_next (i := .iload 5) rfl rfl
set_option maxRecDepth 100000 in
theorem sL_law_934 : Go kL_law 934 [a0, a1, a2, a3, a4, a5, a6, a7, a8] st bc bs hp Q ↔ Go kL_law 935 [a0, a1, a2, a3, a4, a5, a6, a7, a8] (.int 1 :: st) bc bs hp Q := Go_next (i := .iconst 1) rfl rfl
set_option maxRecDepth 100000 in
theorem sL_law_935 {x y : Int32} : Go kL_law 935 [a0, a1, a2, a3, a4, a5, a6, a7, a8] (.int y :: .int x :: st) bc bs hp Q ↔ Go kL_law 936 [a0, a1, a2, a3, a4, a5, a6, a7, a8] (.int (x + y) :: st) bc bs hp Q := Go_next (i := .iadd) rfl rfl
set_option maxRecDepth 100000 in
theorem sL_law_936 {x : Nat} {i : Int32} : Go kL_law 936 [a0, a1, a2, a3, a4, a5, a6, a7, a8] (.int i :: .ref x :: st) bc bs hp Q ↔ RdA hp x 0 i (fun v => Go kL_law 937 [a0, a1, a2, a3, a4, a5, a6, a7, a8] (.int v :: st) bc bs hp Q) := Go_iald rfl
set_option maxRecDepth 100000 in
theorem sL_law_937 {p0 : Int32} {x : Nat} : Go kL_law 937 [a0, a1, a2, a3, a4, a5, a6, a7, a8] (.int p0 :: .ref x :: st) bc bs hp Q ↔ Rcv hp x 8 ∧ nsum st ≤ 8 ∧ Call kX8_record [.ref x, .int p0] hp (Aft kL_law 940 [a0, a1, a2, a3, a4, a5, a6, a7, a8] st bc bs Q) := Go_invV0 rfl rfl rfl rfl rfl rfl rfl rfl rfl rfl
set_option maxRecDepth 100000 in
theorem sL_law_940 {x : Int32} (hj : a6.category = 1) : Go kL_law 940 [a0, a1, a2, a3, a4, a5, a6, a7, a8] (.int x :: st) bc bs hp Q ↔ Go kL_law 942 [a0, a1, a2, a3, a4, a5, a6, (.int x), a8] st bc bs hp Q := Go_sto (i := .istore 7) (j := 7) (v := .int x) rfl rfl (Nat.le_of_ble_eq_true rfl) (decide_eq_true hj) rfl
set_option maxRecDepth 100000 in
theorem sL_law_942 {x : Nat} : Go kL_law 942 [a0, a1, (.ref x), a3, a4, a5, a6, a7, a8] st bc bs hp Q ↔ Go kL_law 943 [a0, a1, (.ref x), a3, a4, a5, a6, a7, a8] (.ref x :: st) bc bs hp Q := Go_next (i := .aload_n 2) rfl rfl
set_option maxRecDepth 100000 in
theorem sL_law_943 {x : Nat} : Go kL_law 943 [a0, a1, a2, a3, a4, a5, a6, a7, a8] (.ref x :: st) bc bs hp Q ↔ Rcv hp x 8 ∧ nsum st ≤ 8 ∧ Call kX8_thrown [.ref x] hp (Aft kL_law 946 [a0, a1, a2, a3, a4, a5, a6, a7, a8] st bc bs Q) := Go_invV0 rfl rfl rfl rfl rfl rfl rfl rfl rfl rfl
set_option maxRecDepth 100000 in
theorem sL_law_946 {x : Int32} : Go kL_law 946 [a0, a1, a2, a3, a4, a5, (.int x), a7, a8] st bc bs hp Q ↔ Go kL_law 948 [a0, a1, a2, a3, a4, a5, (.int x), a7, a8] (.int x :: st) bc bs hp Q := Go_next (i := .iload 6) rfl rfl
set_option maxRecDepth 100000 in
theorem sL_law_948 {x y : Int32} : Go kL_law 948 [a0, a1, a2, a3, a4, a5, a6, a7, a8] (.int y :: .int x :: st) bc bs hp Q ↔ (x = y → Go kL_law 953 [a0, a1, a2, a3, a4, a5, a6, a7, a8] st bc bs hp Q) ∧ (¬ x = y → Go kL_law 951 [a0, a1, a2, a3, a4, a5, a6, a7, a8] st bc bs hp Q) := Go_ift (c := x = y) (i := .if_icmp .eq 5) rfl rfl
set_option maxRecDepth 100000 in
theorem sL_law_951 : Go kL_law 951 [a0, a1, a2, a3, a4, a5, a6, a7, a8] st bc bs hp Q ↔ Go kL_law 952 [a0, a1, a2, a3, a4, a5, a6, a7, a8] (.int 0 :: st) bc bs hp Q := Go_next (i := .iconst 0) rfl rfl
set_option maxRecDepth 100000 in
theorem sL_law_952 {x : Int32} : Go kL_law 952 [a0, a1, a2, a3, a4, a5, a6, a7, a8] [.int x] bc bs hp Q ↔ outI kL_law x = true ∧ Q (.inl (some (.int x))) hp := Go_retIf (i := .ireturn) rfl rfl
set_option maxRecDepth 100000 in
theorem sL_law_953 {x : Int32} : Go kL_law 953 [a0, a1, a2, a3, a4, a5, (.int x), a7, a8] st bc bs hp Q ↔ Go kL_law 955 [a0, a1, a2, a3, a4, a5, (.int x), a7, a8] (.int x :: st) bc bs hp Q := Go_next (i := .iload 6) rfl rfl
set_option maxRecDepth 100000 in
theorem sL_law_955 {x : Int32} : Go kL_law 955 [a0, a1, a2, a3, a4, a5, a6, a7, a8] (.int x :: st) bc bs hp Q ↔ (¬ x = 0 → Go kL_law 970 [a0, a1, a2, a3, a4, a5, a6, a7, a8] st bc bs hp Q) ∧ (x = 0 → Go kL_law 958 [a0, a1, a2, a3, a4, a5, a6, a7, a8] st bc bs hp Q) := Go_ifn (c := x = 0) (i := .ifCond .ne 15) rfl rfl
set_option maxRecDepth 100000 in
theorem sL_law_958 {x : Nat} : Go kL_law 958 [a0, a1, a2, (.ref x), a4, a5, a6, a7, a8] st bc bs hp Q ↔ Go kL_law 959 [a0, a1, a2, (.ref x), a4, a5, a6, a7, a8] (.ref x :: st) bc bs hp Q := Go_next (i := .aload_n 3) rfl rfl
set_option maxRecDepth 100000 in
theorem sL_law_959 : Go kL_law 959 [a0, a1, a2, a3, a4, a5, a6, a7, a8] st bc bs hp Q ↔ Go kL_law 960 [a0, a1, a2, a3, a4, a5, a6, a7, a8] (.int 0 :: st) bc bs hp Q := Go_next (i := .iconst 0) rfl rfl
set_option maxRecDepth 100000 in
theorem sL_law_960 {x : Nat} {i : Int32} : Go kL_law 960 [a0, a1, a2, a3, a4, a5, a6, a7, a8] (.int i :: .ref x :: st) bc bs hp Q ↔ RdL hp x i (fun v => Go kL_law 961 [a0, a1, a2, a3, a4, a5, a6, a7, a8] (.long v :: st) bc bs hp Q) := Go_lald rfl
set_option maxRecDepth 100000 in
theorem sL_law_961 {x : Int32} : Go kL_law 961 [a0, a1, a2, a3, a4, a5, a6, (.int x), a8] st bc bs hp Q ↔ Go kL_law 963 [a0, a1, a2, a3, a4, a5, a6, (.int x), a8] (.int x :: st) bc bs hp Q := Go_next (i := .iload 7) rfl rfl
set_option maxRecDepth 100000 in
theorem sL_law_963 {x : Int32} : Go kL_law 963 [a0, a1, a2, a3, a4, a5, a6, a7, a8] (.int x :: st) bc bs hp Q ↔ Go kL_law 964 [a0, a1, a2, a3, a4, a5, a6, a7, a8] (.long x.toInt64 :: st) bc bs hp Q := Go_next (i := .i2l) rfl rfl
set_option maxRecDepth 100000 in
theorem sL_law_964 {x y : Int64} : Go kL_law 964 [a0, a1, a2, a3, a4, a5, a6, a7, a8] (.long y :: .long x :: st) bc bs hp Q ↔ Go kL_law 965 [a0, a1, a2, a3, a4, a5, a6, a7, a8] (.int (lg_cmp x y) :: st) bc bs hp Q := Go_next (i := .lcmp) rfl rfl
set_option maxRecDepth 100000 in
theorem sL_law_965 {x : Int32} : Go kL_law 965 [a0, a1, a2, a3, a4, a5, a6, a7, a8] (.int x :: st) bc bs hp Q ↔ (x = 0 → Go kL_law 970 [a0, a1, a2, a3, a4, a5, a6, a7, a8] st bc bs hp Q) ∧ (¬ x = 0 → Go kL_law 968 [a0, a1, a2, a3, a4, a5, a6, a7, a8] st bc bs hp Q) := Go_ift (c := x = 0) (i := .ifCond .eq 5) rfl rfl
set_option maxRecDepth 100000 in
theorem sL_law_968 : Go kL_law 968 [a0, a1, a2, a3, a4, a5, a6, a7, a8] st bc bs hp Q ↔ Go kL_law 969 [a0, a1, a2, a3, a4, a5, a6, a7, a8] (.int 0 :: st) bc bs hp Q := Go_next (i := .iconst 0) rfl rfl
set_option maxRecDepth 100000 in
theorem sL_law_969 {x : Int32} : Go kL_law 969 [a0, a1, a2, a3, a4, a5, a6, a7, a8] [.int x] bc bs hp Q ↔ outI kL_law x = true ∧ Q (.inl (some (.int x))) hp := Go_retIf (i := .ireturn) rfl rfl
set_option maxRecDepth 100000 in
theorem sL_law_970 : Go kL_law 970 [a0, a1, a2, a3, a4, a5, a6, a7, a8] st bc bs hp Q ↔ Go kL_law 3086 [a0, a1, a2, a3, a4, a5, a6, a7, a8] st bc bs hp Q := Go_next (i := .goto 2116) rfl rfl
set_option maxRecDepth 100000 in
theorem sL_law_973 {x : Nat} : Go kL_law 973 [a0, (.ref x), a2, a3, a4, a5, a6, a7, a8] st bc bs hp Q ↔ Go kL_law 974 [a0, (.ref x), a2, a3, a4, a5, a6, a7, a8] (.ref x :: st) bc bs hp Q := Go_next (i := .aload_n 1) rfl rfl
set_option maxRecDepth 100000 in
theorem sL_law_974 {x : Nat} : Go kL_law 974 [(.ref x), a1, a2, a3, a4, a5, a6, a7, a8] st bc bs hp Q ↔ Go kL_law 975 [(.ref x), a1, a2, a3, a4, a5, a6, a7, a8] (.ref x :: st) bc bs hp Q := Go_next (i := .aload_n 0) rfl rfl
set_option maxRecDepth 100000 in
theorem sL_law_975 {x : Int32} : Go kL_law 975 [a0, a1, a2, a3, a4, (.int x), a6, a7, a8] st bc bs hp Q ↔ Go kL_law 977 [a0, a1, a2, a3, a4, (.int x), a6, a7, a8] (.int x :: st) bc bs hp Q := Go_next (i := .iload 5) rfl rfl
set_option maxRecDepth 100000 in
theorem sL_law_977 : Go kL_law 977 [a0, a1, a2, a3, a4, a5, a6, a7, a8] st bc bs hp Q ↔ Go kL_law 978 [a0, a1, a2, a3, a4, a5, a6, a7, a8] (.int 1 :: st) bc bs hp Q := Go_next (i := .iconst 1) rfl rfl
set_option maxRecDepth 100000 in
theorem sL_law_978 {x y : Int32} : Go kL_law 978 [a0, a1, a2, a3, a4, a5, a6, a7, a8] (.int y :: .int x :: st) bc bs hp Q ↔ Go kL_law 979 [a0, a1, a2, a3, a4, a5, a6, a7, a8] (.int (x + y) :: st) bc bs hp Q := Go_next (i := .iadd) rfl rfl
set_option maxRecDepth 100000 in
theorem sL_law_979 {x : Nat} {i : Int32} : Go kL_law 979 [a0, a1, a2, a3, a4, a5, a6, a7, a8] (.int i :: .ref x :: st) bc bs hp Q ↔ RdA hp x 0 i (fun v => Go kL_law 980 [a0, a1, a2, a3, a4, a5, a6, a7, a8] (.int v :: st) bc bs hp Q) := Go_iald rfl
set_option maxRecDepth 100000 in
theorem sL_law_980 {x : Nat} : Go kL_law 980 [(.ref x), a1, a2, a3, a4, a5, a6, a7, a8] st bc bs hp Q ↔ Go kL_law 981 [(.ref x), a1, a2, a3, a4, a5, a6, a7, a8] (.ref x :: st) bc bs hp Q := Go_next (i := .aload_n 0) rfl rfl
set_option maxRecDepth 100000 in
theorem sL_law_981 {x : Int32} : Go kL_law 981 [a0, a1, a2, a3, a4, (.int x), a6, a7, a8] st bc bs hp Q ↔ Go kL_law 983 [a0, a1, a2, a3, a4, (.int x), a6, a7, a8] (.int x :: st) bc bs hp Q := Go_next (i := .iload 5) rfl rfl
set_option maxRecDepth 100000 in
theorem sL_law_983 : Go kL_law 983 [a0, a1, a2, a3, a4, a5, a6, a7, a8] st bc bs hp Q ↔ Go kL_law 984 [a0, a1, a2, a3, a4, a5, a6, a7, a8] (.int 2 :: st) bc bs hp Q := Go_next (i := .iconst 2) rfl rfl
set_option maxRecDepth 100000 in
theorem sL_law_984 {x y : Int32} : Go kL_law 984 [a0, a1, a2, a3, a4, a5, a6, a7, a8] (.int y :: .int x :: st) bc bs hp Q ↔ Go kL_law 985 [a0, a1, a2, a3, a4, a5, a6, a7, a8] (.int (x + y) :: st) bc bs hp Q := Go_next (i := .iadd) rfl rfl
set_option maxRecDepth 100000 in
theorem sL_law_985 {x : Nat} {i : Int32} : Go kL_law 985 [a0, a1, a2, a3, a4, a5, a6, a7, a8] (.int i :: .ref x :: st) bc bs hp Q ↔ RdA hp x 0 i (fun v => Go kL_law 986 [a0, a1, a2, a3, a4, a5, a6, a7, a8] (.int v :: st) bc bs hp Q) := Go_iald rfl
set_option maxRecDepth 100000 in
theorem sL_law_986 {x : Nat} : Go kL_law 986 [(.ref x), a1, a2, a3, a4, a5, a6, a7, a8] st bc bs hp Q ↔ Go kL_law 987 [(.ref x), a1, a2, a3, a4, a5, a6, a7, a8] (.ref x :: st) bc bs hp Q := Go_next (i := .aload_n 0) rfl rfl
set_option maxRecDepth 100000 in
theorem sL_law_987 {x : Int32} : Go kL_law 987 [a0, a1, a2, a3, a4, (.int x), a6, a7, a8] st bc bs hp Q ↔ Go kL_law 989 [a0, a1, a2, a3, a4, (.int x), a6, a7, a8] (.int x :: st) bc bs hp Q := Go_next (i := .iload 5) rfl rfl
set_option maxRecDepth 100000 in
theorem sL_law_989 : Go kL_law 989 [a0, a1, a2, a3, a4, a5, a6, a7, a8] st bc bs hp Q ↔ Go kL_law 990 [a0, a1, a2, a3, a4, a5, a6, a7, a8] (.int 3 :: st) bc bs hp Q := Go_next (i := .iconst 3) rfl rfl
set_option maxRecDepth 100000 in
theorem sL_law_990 {x y : Int32} : Go kL_law 990 [a0, a1, a2, a3, a4, a5, a6, a7, a8] (.int y :: .int x :: st) bc bs hp Q ↔ Go kL_law 991 [a0, a1, a2, a3, a4, a5, a6, a7, a8] (.int (x + y) :: st) bc bs hp Q := Go_next (i := .iadd) rfl rfl
set_option maxRecDepth 100000 in
theorem sL_law_991 {x : Nat} {i : Int32} : Go kL_law 991 [a0, a1, a2, a3, a4, a5, a6, a7, a8] (.int i :: .ref x :: st) bc bs hp Q ↔ RdA hp x 0 i (fun v => Go kL_law 992 [a0, a1, a2, a3, a4, a5, a6, a7, a8] (.int v :: st) bc bs hp Q) := Go_iald rfl
set_option maxRecDepth 100000 in
theorem sL_law_992 {x : Nat} : Go kL_law 992 [(.ref x), a1, a2, a3, a4, a5, a6, a7, a8] st bc bs hp Q ↔ Go kL_law 993 [(.ref x), a1, a2, a3, a4, a5, a6, a7, a8] (.ref x :: st) bc bs hp Q := Go_next (i := .aload_n 0) rfl rfl
set_option maxRecDepth 100000 in
theorem sL_law_993 {x : Int32} : Go kL_law 993 [a0, a1, a2, a3, a4, (.int x), a6, a7, a8] st bc bs hp Q ↔ Go kL_law 995 [a0, a1, a2, a3, a4, (.int x), a6, a7, a8] (.int x :: st) bc bs hp Q := Go_next (i := .iload 5) rfl rfl
set_option maxRecDepth 100000 in
theorem sL_law_995 : Go kL_law 995 [a0, a1, a2, a3, a4, a5, a6, a7, a8] st bc bs hp Q ↔ Go kL_law 996 [a0, a1, a2, a3, a4, a5, a6, a7, a8] (.int 4 :: st) bc bs hp Q := Go_next (i := .iconst 4) rfl rfl
set_option maxRecDepth 100000 in
theorem sL_law_996 {x y : Int32} : Go kL_law 996 [a0, a1, a2, a3, a4, a5, a6, a7, a8] (.int y :: .int x :: st) bc bs hp Q ↔ Go kL_law 997 [a0, a1, a2, a3, a4, a5, a6, a7, a8] (.int (x + y) :: st) bc bs hp Q := Go_next (i := .iadd) rfl rfl
set_option maxRecDepth 100000 in
theorem sL_law_997 {x : Nat} {i : Int32} : Go kL_law 997 [a0, a1, a2, a3, a4, a5, a6, a7, a8] (.int i :: .ref x :: st) bc bs hp Q ↔ RdA hp x 0 i (fun v => Go kL_law 998 [a0, a1, a2, a3, a4, a5, a6, a7, a8] (.int v :: st) bc bs hp Q) := Go_iald rfl
set_option maxRecDepth 100000 in
theorem sL_law_998 {x : Nat} : Go kL_law 998 [a0, a1, a2, (.ref x), a4, a5, a6, a7, a8] st bc bs hp Q ↔ Go kL_law 999 [a0, a1, a2, (.ref x), a4, a5, a6, a7, a8] (.ref x :: st) bc bs hp Q := Go_next (i := .aload_n 3) rfl rfl
set_option maxRecDepth 100000 in
theorem sL_law_999 {p0 : Nat} {p1 : Int32} {p2 : Int32} {p3 : Int32} {p4 : Int32} {p5 : Nat} : Go kL_law 999 [a0, a1, a2, a3, a4, a5, a6, a7, a8] (.ref p5 :: .int p4 :: .int p3 :: .int p2 :: .int p1 :: .ref p0 :: st) bc bs hp Q ↔ (4 ≤ bc ∧ 24 ≤ bs ∧ nsum st ≤ 8) ∧ Call kL_setTimes [.ref p0, .int p1, .int p2, .int p3, .int p4, .ref p5] hp (Aft kL_law 1002 [a0, a1, a2, a3, a4, a5, a6, a7, a8] st (bc - 4) (bs - 24) Q) := Go_inv (i := .invokestatic 202) rfl rfl rfl rfl rfl rfl
set_option maxRecDepth 100000 in
theorem sL_law_1002 {x : Int32} (hj : a5.category = 1) : Go kL_law 1002 [a0, a1, a2, a3, a4, a5, a6, a7, a8] (.int x :: st) bc bs hp Q ↔ Go kL_law 1004 [a0, a1, a2, a3, a4, a5, (.int x), a7, a8] st bc bs hp Q := Go_sto (i := .istore 6) (j := 6) (v := .int x) rfl rfl (Nat.le_of_ble_eq_true rfl) (decide_eq_true hj) rfl
set_option maxRecDepth 100000 in
theorem sL_law_1004 {x : Nat} : Go kL_law 1004 [a0, a1, (.ref x), a3, a4, a5, a6, a7, a8] st bc bs hp Q ↔ Go kL_law 1005 [a0, a1, (.ref x), a3, a4, a5, a6, a7, a8] (.ref x :: st) bc bs hp Q := Go_next (i := .aload_n 2) rfl rfl
set_option maxRecDepth 100000 in
theorem sL_law_1005 {x : Nat} : Go kL_law 1005 [(.ref x), a1, a2, a3, a4, a5, a6, a7, a8] st bc bs hp Q ↔ Go kL_law 1006 [(.ref x), a1, a2, a3, a4, a5, a6, a7, a8] (.ref x :: st) bc bs hp Q := Go_next (i := .aload_n 0) rfl rfl
set_option maxRecDepth 100000 in
theorem sL_law_1006 {x : Int32} : Go kL_law 1006 [a0, a1, a2, a3, a4, (.int x), a6, a7, a8] st bc bs hp Q ↔ Go kL_law 1008 [a0, a1, a2, a3, a4, (.int x), a6, a7, a8] (.int x :: st) bc bs hp Q := Go_next (i := .iload 5) rfl rfl
set_option maxRecDepth 100000 in
theorem sL_law_1008 : Go kL_law 1008 [a0, a1, a2, a3, a4, a5, a6, a7, a8] st bc bs hp Q ↔ Go kL_law 1009 [a0, a1, a2, a3, a4, a5, a6, a7, a8] (.int 1 :: st) bc bs hp Q := Go_next (i := .iconst 1) rfl rfl
set_option maxRecDepth 100000 in
theorem sL_law_1009 {x y : Int32} : Go kL_law 1009 [a0, a1, a2, a3, a4, a5, a6, a7, a8] (.int y :: .int x :: st) bc bs hp Q ↔ Go kL_law 1010 [a0, a1, a2, a3, a4, a5, a6, a7, a8] (.int (x + y) :: st) bc bs hp Q := Go_next (i := .iadd) rfl rfl
set_option maxRecDepth 100000 in
theorem sL_law_1010 {x : Nat} {i : Int32} : Go kL_law 1010 [a0, a1, a2, a3, a4, a5, a6, a7, a8] (.int i :: .ref x :: st) bc bs hp Q ↔ RdA hp x 0 i (fun v => Go kL_law 1011 [a0, a1, a2, a3, a4, a5, a6, a7, a8] (.int v :: st) bc bs hp Q) := Go_iald rfl
set_option maxRecDepth 100000 in
theorem sL_law_1011 {x : Nat} : Go kL_law 1011 [(.ref x), a1, a2, a3, a4, a5, a6, a7, a8] st bc bs hp Q ↔ Go kL_law 1012 [(.ref x), a1, a2, a3, a4, a5, a6, a7, a8] (.ref x :: st) bc bs hp Q := Go_next (i := .aload_n 0) rfl rfl
set_option maxRecDepth 100000 in
theorem sL_law_1012 {x : Int32} : Go kL_law 1012 [a0, a1, a2, a3, a4, (.int x), a6, a7, a8] st bc bs hp Q ↔ Go kL_law 1014 [a0, a1, a2, a3, a4, (.int x), a6, a7, a8] (.int x :: st) bc bs hp Q := Go_next (i := .iload 5) rfl rfl
set_option maxRecDepth 100000 in
theorem sL_law_1014 : Go kL_law 1014 [a0, a1, a2, a3, a4, a5, a6, a7, a8] st bc bs hp Q ↔ Go kL_law 1015 [a0, a1, a2, a3, a4, a5, a6, a7, a8] (.int 2 :: st) bc bs hp Q := Go_next (i := .iconst 2) rfl rfl
set_option maxRecDepth 100000 in
theorem sL_law_1015 {x y : Int32} : Go kL_law 1015 [a0, a1, a2, a3, a4, a5, a6, a7, a8] (.int y :: .int x :: st) bc bs hp Q ↔ Go kL_law 1016 [a0, a1, a2, a3, a4, a5, a6, a7, a8] (.int (x + y) :: st) bc bs hp Q := Go_next (i := .iadd) rfl rfl
set_option maxRecDepth 100000 in
theorem sL_law_1016 {x : Nat} {i : Int32} : Go kL_law 1016 [a0, a1, a2, a3, a4, a5, a6, a7, a8] (.int i :: .ref x :: st) bc bs hp Q ↔ RdA hp x 0 i (fun v => Go kL_law 1017 [a0, a1, a2, a3, a4, a5, a6, a7, a8] (.int v :: st) bc bs hp Q) := Go_iald rfl
set_option maxRecDepth 100000 in
theorem sL_law_1017 {x : Nat} : Go kL_law 1017 [(.ref x), a1, a2, a3, a4, a5, a6, a7, a8] st bc bs hp Q ↔ Go kL_law 1018 [(.ref x), a1, a2, a3, a4, a5, a6, a7, a8] (.ref x :: st) bc bs hp Q := Go_next (i := .aload_n 0) rfl rfl
set_option maxRecDepth 100000 in
theorem sL_law_1018 {x : Int32} : Go kL_law 1018 [a0, a1, a2, a3, a4, (.int x), a6, a7, a8] st bc bs hp Q ↔ Go kL_law 1020 [a0, a1, a2, a3, a4, (.int x), a6, a7, a8] (.int x :: st) bc bs hp Q := Go_next (i := .iload 5) rfl rfl
set_option maxRecDepth 100000 in
theorem sL_law_1020 : Go kL_law 1020 [a0, a1, a2, a3, a4, a5, a6, a7, a8] st bc bs hp Q ↔ Go kL_law 1021 [a0, a1, a2, a3, a4, a5, a6, a7, a8] (.int 3 :: st) bc bs hp Q := Go_next (i := .iconst 3) rfl rfl
set_option maxRecDepth 100000 in
theorem sL_law_1021 {x y : Int32} : Go kL_law 1021 [a0, a1, a2, a3, a4, a5, a6, a7, a8] (.int y :: .int x :: st) bc bs hp Q ↔ Go kL_law 1022 [a0, a1, a2, a3, a4, a5, a6, a7, a8] (.int (x + y) :: st) bc bs hp Q := Go_next (i := .iadd) rfl rfl
set_option maxRecDepth 100000 in
theorem sL_law_1022 {x : Nat} {i : Int32} : Go kL_law 1022 [a0, a1, a2, a3, a4, a5, a6, a7, a8] (.int i :: .ref x :: st) bc bs hp Q ↔ RdA hp x 0 i (fun v => Go kL_law 1023 [a0, a1, a2, a3, a4, a5, a6, a7, a8] (.int v :: st) bc bs hp Q) := Go_iald rfl
set_option maxRecDepth 100000 in
theorem sL_law_1023 {x : Nat} : Go kL_law 1023 [(.ref x), a1, a2, a3, a4, a5, a6, a7, a8] st bc bs hp Q ↔ Go kL_law 1024 [(.ref x), a1, a2, a3, a4, a5, a6, a7, a8] (.ref x :: st) bc bs hp Q := Go_next (i := .aload_n 0) rfl rfl
set_option maxRecDepth 100000 in
theorem sL_law_1024 {x : Int32} : Go kL_law 1024 [a0, a1, a2, a3, a4, (.int x), a6, a7, a8] st bc bs hp Q ↔ Go kL_law 1026 [a0, a1, a2, a3, a4, (.int x), a6, a7, a8] (.int x :: st) bc bs hp Q := Go_next (i := .iload 5) rfl rfl
set_option maxRecDepth 100000 in
theorem sL_law_1026 : Go kL_law 1026 [a0, a1, a2, a3, a4, a5, a6, a7, a8] st bc bs hp Q ↔ Go kL_law 1027 [a0, a1, a2, a3, a4, a5, a6, a7, a8] (.int 4 :: st) bc bs hp Q := Go_next (i := .iconst 4) rfl rfl
set_option maxRecDepth 100000 in
theorem sL_law_1027 {x y : Int32} : Go kL_law 1027 [a0, a1, a2, a3, a4, a5, a6, a7, a8] (.int y :: .int x :: st) bc bs hp Q ↔ Go kL_law 1028 [a0, a1, a2, a3, a4, a5, a6, a7, a8] (.int (x + y) :: st) bc bs hp Q := Go_next (i := .iadd) rfl rfl
set_option maxRecDepth 100000 in
theorem sL_law_1028 {x : Nat} {i : Int32} : Go kL_law 1028 [a0, a1, a2, a3, a4, a5, a6, a7, a8] (.int i :: .ref x :: st) bc bs hp Q ↔ RdA hp x 0 i (fun v => Go kL_law 1029 [a0, a1, a2, a3, a4, a5, a6, a7, a8] (.int v :: st) bc bs hp Q) := Go_iald rfl
set_option maxRecDepth 100000 in
theorem sL_law_1029 {p0 : Int32} {p1 : Int32} {p2 : Int32} {p3 : Int32} {x : Nat} : Go kL_law 1029 [a0, a1, a2, a3, a4, a5, a6, a7, a8] (.int p3 :: .int p2 :: .int p1 :: .int p0 :: .ref x :: st) bc bs hp Q ↔ Rcv hp x 8 ∧ nsum st ≤ 8 ∧ Call kX8_setTimes [.ref x, .int p0, .int p1, .int p2, .int p3] hp (Aft kL_law 1032 [a0, a1, a2, a3, a4, a5, a6, a7, a8] st bc bs Q) := Go_invV0 rfl rfl rfl rfl rfl rfl rfl rfl rfl rfl
set_option maxRecDepth 100000 in
theorem sL_law_1032 {x : Int32} (hj : a6.category = 1) : Go kL_law 1032 [a0, a1, a2, a3, a4, a5, a6, a7, a8] (.int x :: st) bc bs hp Q ↔ Go kL_law 1034 [a0, a1, a2, a3, a4, a5, a6, (.int x), a8] st bc bs hp Q := Go_sto (i := .istore 7) (j := 7) (v := .int x) rfl rfl (Nat.le_of_ble_eq_true rfl) (decide_eq_true hj) rfl
set_option maxRecDepth 100000 in
theorem sL_law_1034 {x : Nat} : Go kL_law 1034 [a0, a1, (.ref x), a3, a4, a5, a6, a7, a8] st bc bs hp Q ↔ Go kL_law 1035 [a0, a1, (.ref x), a3, a4, a5, a6, a7, a8] (.ref x :: st) bc bs hp Q := Go_next (i := .aload_n 2) rfl rfl
set_option maxRecDepth 100000 in
theorem sL_law_1035 {x : Nat} : Go kL_law 1035 [a0, a1, a2, a3, a4, a5, a6, a7, a8] (.ref x :: st) bc bs hp Q ↔ Rcv hp x 8 ∧ nsum st ≤ 8 ∧ Call kX8_thrown [.ref x] hp (Aft kL_law 1038 [a0, a1, a2, a3, a4, a5, a6, a7, a8] st bc bs Q) := Go_invV0 rfl rfl rfl rfl rfl rfl rfl rfl rfl rfl
set_option maxRecDepth 100000 in
theorem sL_law_1038 {x : Int32} : Go kL_law 1038 [a0, a1, a2, a3, a4, a5, (.int x), a7, a8] st bc bs hp Q ↔ Go kL_law 1040 [a0, a1, a2, a3, a4, a5, (.int x), a7, a8] (.int x :: st) bc bs hp Q := Go_next (i := .iload 6) rfl rfl
set_option maxRecDepth 100000 in
theorem sL_law_1040 {x y : Int32} : Go kL_law 1040 [a0, a1, a2, a3, a4, a5, a6, a7, a8] (.int y :: .int x :: st) bc bs hp Q ↔ (x = y → Go kL_law 1045 [a0, a1, a2, a3, a4, a5, a6, a7, a8] st bc bs hp Q) ∧ (¬ x = y → Go kL_law 1043 [a0, a1, a2, a3, a4, a5, a6, a7, a8] st bc bs hp Q) := Go_ift (c := x = y) (i := .if_icmp .eq 5) rfl rfl
set_option maxRecDepth 100000 in
theorem sL_law_1043 : Go kL_law 1043 [a0, a1, a2, a3, a4, a5, a6, a7, a8] st bc bs hp Q ↔ Go kL_law 1044 [a0, a1, a2, a3, a4, a5, a6, a7, a8] (.int 0 :: st) bc bs hp Q := Go_next (i := .iconst 0) rfl rfl
set_option maxRecDepth 100000 in
theorem sL_law_1044 {x : Int32} : Go kL_law 1044 [a0, a1, a2, a3, a4, a5, a6, a7, a8] [.int x] bc bs hp Q ↔ outI kL_law x = true ∧ Q (.inl (some (.int x))) hp := Go_retIf (i := .ireturn) rfl rfl
set_option maxRecDepth 100000 in
theorem sL_law_1045 {x : Int32} : Go kL_law 1045 [a0, a1, a2, a3, a4, a5, (.int x), a7, a8] st bc bs hp Q ↔ Go kL_law 1047 [a0, a1, a2, a3, a4, a5, (.int x), a7, a8] (.int x :: st) bc bs hp Q := Go_next (i := .iload 6) rfl rfl
set_option maxRecDepth 100000 in
theorem sL_law_1047 {x : Int32} : Go kL_law 1047 [a0, a1, a2, a3, a4, a5, a6, a7, a8] (.int x :: st) bc bs hp Q ↔ (¬ x = 0 → Go kL_law 1062 [a0, a1, a2, a3, a4, a5, a6, a7, a8] st bc bs hp Q) ∧ (x = 0 → Go kL_law 1050 [a0, a1, a2, a3, a4, a5, a6, a7, a8] st bc bs hp Q) := Go_ifn (c := x = 0) (i := .ifCond .ne 15) rfl rfl
set_option maxRecDepth 100000 in
theorem sL_law_1050 {x : Nat} : Go kL_law 1050 [a0, a1, a2, (.ref x), a4, a5, a6, a7, a8] st bc bs hp Q ↔ Go kL_law 1051 [a0, a1, a2, (.ref x), a4, a5, a6, a7, a8] (.ref x :: st) bc bs hp Q := Go_next (i := .aload_n 3) rfl rfl
set_option maxRecDepth 100000 in
theorem sL_law_1051 : Go kL_law 1051 [a0, a1, a2, a3, a4, a5, a6, a7, a8] st bc bs hp Q ↔ Go kL_law 1052 [a0, a1, a2, a3, a4, a5, a6, a7, a8] (.int 0 :: st) bc bs hp Q := Go_next (i := .iconst 0) rfl rfl
set_option maxRecDepth 100000 in
theorem sL_law_1052 {x : Nat} {i : Int32} : Go kL_law 1052 [a0, a1, a2, a3, a4, a5, a6, a7, a8] (.int i :: .ref x :: st) bc bs hp Q ↔ RdL hp x i (fun v => Go kL_law 1053 [a0, a1, a2, a3, a4, a5, a6, a7, a8] (.long v :: st) bc bs hp Q) := Go_lald rfl
set_option maxRecDepth 100000 in
theorem sL_law_1053 {x : Int32} : Go kL_law 1053 [a0, a1, a2, a3, a4, a5, a6, (.int x), a8] st bc bs hp Q ↔ Go kL_law 1055 [a0, a1, a2, a3, a4, a5, a6, (.int x), a8] (.int x :: st) bc bs hp Q := Go_next (i := .iload 7) rfl rfl
set_option maxRecDepth 100000 in
theorem sL_law_1055 {x : Int32} : Go kL_law 1055 [a0, a1, a2, a3, a4, a5, a6, a7, a8] (.int x :: st) bc bs hp Q ↔ Go kL_law 1056 [a0, a1, a2, a3, a4, a5, a6, a7, a8] (.long x.toInt64 :: st) bc bs hp Q := Go_next (i := .i2l) rfl rfl
set_option maxRecDepth 100000 in
theorem sL_law_1056 {x y : Int64} : Go kL_law 1056 [a0, a1, a2, a3, a4, a5, a6, a7, a8] (.long y :: .long x :: st) bc bs hp Q ↔ Go kL_law 1057 [a0, a1, a2, a3, a4, a5, a6, a7, a8] (.int (lg_cmp x y) :: st) bc bs hp Q := Go_next (i := .lcmp) rfl rfl
set_option maxRecDepth 100000 in
theorem sL_law_1057 {x : Int32} : Go kL_law 1057 [a0, a1, a2, a3, a4, a5, a6, a7, a8] (.int x :: st) bc bs hp Q ↔ (x = 0 → Go kL_law 1062 [a0, a1, a2, a3, a4, a5, a6, a7, a8] st bc bs hp Q) ∧ (¬ x = 0 → Go kL_law 1060 [a0, a1, a2, a3, a4, a5, a6, a7, a8] st bc bs hp Q) := Go_ift (c := x = 0) (i := .ifCond .eq 5) rfl rfl
set_option maxRecDepth 100000 in
theorem sL_law_1060 : Go kL_law 1060 [a0, a1, a2, a3, a4, a5, a6, a7, a8] st bc bs hp Q ↔ Go kL_law 1061 [a0, a1, a2, a3, a4, a5, a6, a7, a8] (.int 0 :: st) bc bs hp Q := Go_next (i := .iconst 0) rfl rfl
set_option maxRecDepth 100000 in
theorem sL_law_1061 {x : Int32} : Go kL_law 1061 [a0, a1, a2, a3, a4, a5, a6, a7, a8] [.int x] bc bs hp Q ↔ outI kL_law x = true ∧ Q (.inl (some (.int x))) hp := Go_retIf (i := .ireturn) rfl rfl
set_option maxRecDepth 100000 in
theorem sL_law_1062 : Go kL_law 1062 [a0, a1, a2, a3, a4, a5, a6, a7, a8] st bc bs hp Q ↔ Go kL_law 3086 [a0, a1, a2, a3, a4, a5, a6, a7, a8] st bc bs hp Q := Go_next (i := .goto 2024) rfl rfl
set_option maxRecDepth 100000 in
theorem sL_law_1065 {x : Nat} : Go kL_law 1065 [a0, (.ref x), a2, a3, a4, a5, a6, a7, a8] st bc bs hp Q ↔ Go kL_law 1066 [a0, (.ref x), a2, a3, a4, a5, a6, a7, a8] (.ref x :: st) bc bs hp Q := Go_next (i := .aload_n 1) rfl rfl
set_option maxRecDepth 100000 in
theorem sL_law_1066 {x : Nat} : Go kL_law 1066 [(.ref x), a1, a2, a3, a4, a5, a6, a7, a8] st bc bs hp Q ↔ Go kL_law 1067 [(.ref x), a1, a2, a3, a4, a5, a6, a7, a8] (.ref x :: st) bc bs hp Q := Go_next (i := .aload_n 0) rfl rfl
set_option maxRecDepth 100000 in
theorem sL_law_1067 {x : Int32} : Go kL_law 1067 [a0, a1, a2, a3, a4, (.int x), a6, a7, a8] st bc bs hp Q ↔ Go kL_law 1069 [a0, a1, a2, a3, a4, (.int x), a6, a7, a8] (.int x :: st) bc bs hp Q := Go_next (i := .iload 5) rfl rfl
set_option maxRecDepth 100000 in
theorem sL_law_1069 : Go kL_law 1069 [a0, a1, a2, a3, a4, a5, a6, a7, a8] st bc bs hp Q ↔ Go kL_law 1070 [a0, a1, a2, a3, a4, a5, a6, a7, a8] (.int 1 :: st) bc bs hp Q := Go_next (i := .iconst 1) rfl rfl
set_option maxRecDepth 100000 in
theorem sL_law_1070 {x y : Int32} : Go kL_law 1070 [a0, a1, a2, a3, a4, a5, a6, a7, a8] (.int y :: .int x :: st) bc bs hp Q ↔ Go kL_law 1071 [a0, a1, a2, a3, a4, a5, a6, a7, a8] (.int (x + y) :: st) bc bs hp Q := Go_next (i := .iadd) rfl rfl
set_option maxRecDepth 100000 in
theorem sL_law_1071 {x : Nat} {i : Int32} : Go kL_law 1071 [a0, a1, a2, a3, a4, a5, a6, a7, a8] (.int i :: .ref x :: st) bc bs hp Q ↔ RdA hp x 0 i (fun v => Go kL_law 1072 [a0, a1, a2, a3, a4, a5, a6, a7, a8] (.int v :: st) bc bs hp Q) := Go_iald rfl
set_option maxRecDepth 100000 in
theorem sL_law_1072 {x : Nat} : Go kL_law 1072 [(.ref x), a1, a2, a3, a4, a5, a6, a7, a8] st bc bs hp Q ↔ Go kL_law 1073 [(.ref x), a1, a2, a3, a4, a5, a6, a7, a8] (.ref x :: st) bc bs hp Q := Go_next (i := .aload_n 0) rfl rfl
set_option maxRecDepth 100000 in
theorem sL_law_1073 {x : Int32} : Go kL_law 1073 [a0, a1, a2, a3, a4, (.int x), a6, a7, a8] st bc bs hp Q ↔ Go kL_law 1075 [a0, a1, a2, a3, a4, (.int x), a6, a7, a8] (.int x :: st) bc bs hp Q := Go_next (i := .iload 5) rfl rfl
set_option maxRecDepth 100000 in
theorem sL_law_1075 : Go kL_law 1075 [a0, a1, a2, a3, a4, a5, a6, a7, a8] st bc bs hp Q ↔ Go kL_law 1076 [a0, a1, a2, a3, a4, a5, a6, a7, a8] (.int 2 :: st) bc bs hp Q := Go_next (i := .iconst 2) rfl rfl
set_option maxRecDepth 100000 in
theorem sL_law_1076 {x y : Int32} : Go kL_law 1076 [a0, a1, a2, a3, a4, a5, a6, a7, a8] (.int y :: .int x :: st) bc bs hp Q ↔ Go kL_law 1077 [a0, a1, a2, a3, a4, a5, a6, a7, a8] (.int (x + y) :: st) bc bs hp Q := Go_next (i := .iadd) rfl rfl
set_option maxRecDepth 100000 in
theorem sL_law_1077 {x : Nat} {i : Int32} : Go kL_law 1077 [a0, a1, a2, a3, a4, a5, a6, a7, a8] (.int i :: .ref x :: st) bc bs hp Q ↔ RdA hp x 0 i (fun v => Go kL_law 1078 [a0, a1, a2, a3, a4, a5, a6, a7, a8] (.int v :: st) bc bs hp Q) := Go_iald rfl
set_option maxRecDepth 100000 in
theorem sL_law_1078 {x : Nat} : Go kL_law 1078 [(.ref x), a1, a2, a3, a4, a5, a6, a7, a8] st bc bs hp Q ↔ Go kL_law 1079 [(.ref x), a1, a2, a3, a4, a5, a6, a7, a8] (.ref x :: st) bc bs hp Q := Go_next (i := .aload_n 0) rfl rfl
set_option maxRecDepth 100000 in
theorem sL_law_1079 {x : Int32} : Go kL_law 1079 [a0, a1, a2, a3, a4, (.int x), a6, a7, a8] st bc bs hp Q ↔ Go kL_law 1081 [a0, a1, a2, a3, a4, (.int x), a6, a7, a8] (.int x :: st) bc bs hp Q := Go_next (i := .iload 5) rfl rfl
set_option maxRecDepth 100000 in
theorem sL_law_1081 : Go kL_law 1081 [a0, a1, a2, a3, a4, a5, a6, a7, a8] st bc bs hp Q ↔ Go kL_law 1082 [a0, a1, a2, a3, a4, a5, a6, a7, a8] (.int 3 :: st) bc bs hp Q := Go_next (i := .iconst 3) rfl rfl
set_option maxRecDepth 100000 in
theorem sL_law_1082 {x y : Int32} : Go kL_law 1082 [a0, a1, a2, a3, a4, a5, a6, a7, a8] (.int y :: .int x :: st) bc bs hp Q ↔ Go kL_law 1083 [a0, a1, a2, a3, a4, a5, a6, a7, a8] (.int (x + y) :: st) bc bs hp Q := Go_next (i := .iadd) rfl rfl
set_option maxRecDepth 100000 in
theorem sL_law_1083 {x : Nat} {i : Int32} : Go kL_law 1083 [a0, a1, a2, a3, a4, a5, a6, a7, a8] (.int i :: .ref x :: st) bc bs hp Q ↔ RdA hp x 0 i (fun v => Go kL_law 1084 [a0, a1, a2, a3, a4, a5, a6, a7, a8] (.int v :: st) bc bs hp Q) := Go_iald rfl
set_option maxRecDepth 100000 in
theorem sL_law_1084 {x : Nat} : Go kL_law 1084 [a0, a1, a2, (.ref x), a4, a5, a6, a7, a8] st bc bs hp Q ↔ Go kL_law 1085 [a0, a1, a2, (.ref x), a4, a5, a6, a7, a8] (.ref x :: st) bc bs hp Q := Go_next (i := .aload_n 3) rfl rfl
set_option maxRecDepth 100000 in
theorem sL_law_1085 {p0 : Nat} {p1 : Int32} {p2 : Int32} {p3 : Int32} {p4 : Nat} : Go kL_law 1085 [a0, a1, a2, a3, a4, a5, a6, a7, a8] (.ref p4 :: .int p3 :: .int p2 :: .int p1 :: .ref p0 :: st) bc bs hp Q ↔ (3 ≤ bc ∧ 18 ≤ bs ∧ nsum st ≤ 8) ∧ Call kL_setFollow [.ref p0, .int p1, .int p2, .int p3, .ref p4] hp (Aft kL_law 1088 [a0, a1, a2, a3, a4, a5, a6, a7, a8] st (bc - 3) (bs - 18) Q) := Go_inv (i := .invokestatic 205) rfl rfl rfl rfl rfl rfl
set_option maxRecDepth 100000 in
theorem sL_law_1088 {x : Int32} (hj : a5.category = 1) : Go kL_law 1088 [a0, a1, a2, a3, a4, a5, a6, a7, a8] (.int x :: st) bc bs hp Q ↔ Go kL_law 1090 [a0, a1, a2, a3, a4, a5, (.int x), a7, a8] st bc bs hp Q := Go_sto (i := .istore 6) (j := 6) (v := .int x) rfl rfl (Nat.le_of_ble_eq_true rfl) (decide_eq_true hj) rfl
set_option maxRecDepth 100000 in
theorem sL_law_1090 {x : Nat} : Go kL_law 1090 [a0, a1, (.ref x), a3, a4, a5, a6, a7, a8] st bc bs hp Q ↔ Go kL_law 1091 [a0, a1, (.ref x), a3, a4, a5, a6, a7, a8] (.ref x :: st) bc bs hp Q := Go_next (i := .aload_n 2) rfl rfl
set_option maxRecDepth 100000 in
theorem sL_law_1091 {x : Nat} : Go kL_law 1091 [(.ref x), a1, a2, a3, a4, a5, a6, a7, a8] st bc bs hp Q ↔ Go kL_law 1092 [(.ref x), a1, a2, a3, a4, a5, a6, a7, a8] (.ref x :: st) bc bs hp Q := Go_next (i := .aload_n 0) rfl rfl
set_option maxRecDepth 100000 in
theorem sL_law_1092 {x : Int32} : Go kL_law 1092 [a0, a1, a2, a3, a4, (.int x), a6, a7, a8] st bc bs hp Q ↔ Go kL_law 1094 [a0, a1, a2, a3, a4, (.int x), a6, a7, a8] (.int x :: st) bc bs hp Q := Go_next (i := .iload 5) rfl rfl
set_option maxRecDepth 100000 in
theorem sL_law_1094 : Go kL_law 1094 [a0, a1, a2, a3, a4, a5, a6, a7, a8] st bc bs hp Q ↔ Go kL_law 1095 [a0, a1, a2, a3, a4, a5, a6, a7, a8] (.int 1 :: st) bc bs hp Q := Go_next (i := .iconst 1) rfl rfl
set_option maxRecDepth 100000 in
theorem sL_law_1095 {x y : Int32} : Go kL_law 1095 [a0, a1, a2, a3, a4, a5, a6, a7, a8] (.int y :: .int x :: st) bc bs hp Q ↔ Go kL_law 1096 [a0, a1, a2, a3, a4, a5, a6, a7, a8] (.int (x + y) :: st) bc bs hp Q := Go_next (i := .iadd) rfl rfl
set_option maxRecDepth 100000 in
theorem sL_law_1096 {x : Nat} {i : Int32} : Go kL_law 1096 [a0, a1, a2, a3, a4, a5, a6, a7, a8] (.int i :: .ref x :: st) bc bs hp Q ↔ RdA hp x 0 i (fun v => Go kL_law 1097 [a0, a1, a2, a3, a4, a5, a6, a7, a8] (.int v :: st) bc bs hp Q) := Go_iald rfl
set_option maxRecDepth 100000 in
theorem sL_law_1097 {x : Nat} : Go kL_law 1097 [(.ref x), a1, a2, a3, a4, a5, a6, a7, a8] st bc bs hp Q ↔ Go kL_law 1098 [(.ref x), a1, a2, a3, a4, a5, a6, a7, a8] (.ref x :: st) bc bs hp Q := Go_next (i := .aload_n 0) rfl rfl
set_option maxRecDepth 100000 in
theorem sL_law_1098 {x : Int32} : Go kL_law 1098 [a0, a1, a2, a3, a4, (.int x), a6, a7, a8] st bc bs hp Q ↔ Go kL_law 1100 [a0, a1, a2, a3, a4, (.int x), a6, a7, a8] (.int x :: st) bc bs hp Q := Go_next (i := .iload 5) rfl rfl
set_option maxRecDepth 100000 in
theorem sL_law_1100 : Go kL_law 1100 [a0, a1, a2, a3, a4, a5, a6, a7, a8] st bc bs hp Q ↔ Go kL_law 1101 [a0, a1, a2, a3, a4, a5, a6, a7, a8] (.int 2 :: st) bc bs hp Q := Go_next (i := .iconst 2) rfl rfl
set_option maxRecDepth 100000 in
theorem sL_law_1101 {x y : Int32} : Go kL_law 1101 [a0, a1, a2, a3, a4, a5, a6, a7, a8] (.int y :: .int x :: st) bc bs hp Q ↔ Go kL_law 1102 [a0, a1, a2, a3, a4, a5, a6, a7, a8] (.int (x + y) :: st) bc bs hp Q := Go_next (i := .iadd) rfl rfl
set_option maxRecDepth 100000 in
theorem sL_law_1102 {x : Nat} {i : Int32} : Go kL_law 1102 [a0, a1, a2, a3, a4, a5, a6, a7, a8] (.int i :: .ref x :: st) bc bs hp Q ↔ RdA hp x 0 i (fun v => Go kL_law 1103 [a0, a1, a2, a3, a4, a5, a6, a7, a8] (.int v :: st) bc bs hp Q) := Go_iald rfl
set_option maxRecDepth 100000 in
theorem sL_law_1103 {x : Nat} : Go kL_law 1103 [(.ref x), a1, a2, a3, a4, a5, a6, a7, a8] st bc bs hp Q ↔ Go kL_law 1104 [(.ref x), a1, a2, a3, a4, a5, a6, a7, a8] (.ref x :: st) bc bs hp Q := Go_next (i := .aload_n 0) rfl rfl
set_option maxRecDepth 100000 in
theorem sL_law_1104 {x : Int32} : Go kL_law 1104 [a0, a1, a2, a3, a4, (.int x), a6, a7, a8] st bc bs hp Q ↔ Go kL_law 1106 [a0, a1, a2, a3, a4, (.int x), a6, a7, a8] (.int x :: st) bc bs hp Q := Go_next (i := .iload 5) rfl rfl
set_option maxRecDepth 100000 in
theorem sL_law_1106 : Go kL_law 1106 [a0, a1, a2, a3, a4, a5, a6, a7, a8] st bc bs hp Q ↔ Go kL_law 1107 [a0, a1, a2, a3, a4, a5, a6, a7, a8] (.int 3 :: st) bc bs hp Q := Go_next (i := .iconst 3) rfl rfl
set_option maxRecDepth 100000 in
theorem sL_law_1107 {x y : Int32} : Go kL_law 1107 [a0, a1, a2, a3, a4, a5, a6, a7, a8] (.int y :: .int x :: st) bc bs hp Q ↔ Go kL_law 1108 [a0, a1, a2, a3, a4, a5, a6, a7, a8] (.int (x + y) :: st) bc bs hp Q := Go_next (i := .iadd) rfl rfl
set_option maxRecDepth 100000 in
theorem sL_law_1108 {x : Nat} {i : Int32} : Go kL_law 1108 [a0, a1, a2, a3, a4, a5, a6, a7, a8] (.int i :: .ref x :: st) bc bs hp Q ↔ RdA hp x 0 i (fun v => Go kL_law 1109 [a0, a1, a2, a3, a4, a5, a6, a7, a8] (.int v :: st) bc bs hp Q) := Go_iald rfl
set_option maxRecDepth 100000 in
theorem sL_law_1109 {p0 : Int32} {p1 : Int32} {p2 : Int32} {x : Nat} : Go kL_law 1109 [a0, a1, a2, a3, a4, a5, a6, a7, a8] (.int p2 :: .int p1 :: .int p0 :: .ref x :: st) bc bs hp Q ↔ Rcv hp x 8 ∧ nsum st ≤ 8 ∧ Call kX8_setFollow [.ref x, .int p0, .int p1, .int p2] hp (Aft kL_law 1112 [a0, a1, a2, a3, a4, a5, a6, a7, a8] st bc bs Q) := Go_invV0 rfl rfl rfl rfl rfl rfl rfl rfl rfl rfl
set_option maxRecDepth 100000 in
theorem sL_law_1112 {x : Int32} (hj : a6.category = 1) : Go kL_law 1112 [a0, a1, a2, a3, a4, a5, a6, a7, a8] (.int x :: st) bc bs hp Q ↔ Go kL_law 1114 [a0, a1, a2, a3, a4, a5, a6, (.int x), a8] st bc bs hp Q := Go_sto (i := .istore 7) (j := 7) (v := .int x) rfl rfl (Nat.le_of_ble_eq_true rfl) (decide_eq_true hj) rfl
set_option maxRecDepth 100000 in
theorem sL_law_1114 {x : Nat} : Go kL_law 1114 [a0, a1, (.ref x), a3, a4, a5, a6, a7, a8] st bc bs hp Q ↔ Go kL_law 1115 [a0, a1, (.ref x), a3, a4, a5, a6, a7, a8] (.ref x :: st) bc bs hp Q := Go_next (i := .aload_n 2) rfl rfl
set_option maxRecDepth 100000 in
theorem sL_law_1115 {x : Nat} : Go kL_law 1115 [a0, a1, a2, a3, a4, a5, a6, a7, a8] (.ref x :: st) bc bs hp Q ↔ Rcv hp x 8 ∧ nsum st ≤ 8 ∧ Call kX8_thrown [.ref x] hp (Aft kL_law 1118 [a0, a1, a2, a3, a4, a5, a6, a7, a8] st bc bs Q) := Go_invV0 rfl rfl rfl rfl rfl rfl rfl rfl rfl rfl
set_option maxRecDepth 100000 in
theorem sL_law_1118 {x : Int32} : Go kL_law 1118 [a0, a1, a2, a3, a4, a5, (.int x), a7, a8] st bc bs hp Q ↔ Go kL_law 1120 [a0, a1, a2, a3, a4, a5, (.int x), a7, a8] (.int x :: st) bc bs hp Q := Go_next (i := .iload 6) rfl rfl
set_option maxRecDepth 100000 in
theorem sL_law_1120 {x y : Int32} : Go kL_law 1120 [a0, a1, a2, a3, a4, a5, a6, a7, a8] (.int y :: .int x :: st) bc bs hp Q ↔ (x = y → Go kL_law 1125 [a0, a1, a2, a3, a4, a5, a6, a7, a8] st bc bs hp Q) ∧ (¬ x = y → Go kL_law 1123 [a0, a1, a2, a3, a4, a5, a6, a7, a8] st bc bs hp Q) := Go_ift (c := x = y) (i := .if_icmp .eq 5) rfl rfl
set_option maxRecDepth 100000 in
theorem sL_law_1123 : Go kL_law 1123 [a0, a1, a2, a3, a4, a5, a6, a7, a8] st bc bs hp Q ↔ Go kL_law 1124 [a0, a1, a2, a3, a4, a5, a6, a7, a8] (.int 0 :: st) bc bs hp Q := Go_next (i := .iconst 0) rfl rfl
set_option maxRecDepth 100000 in
theorem sL_law_1124 {x : Int32} : Go kL_law 1124 [a0, a1, a2, a3, a4, a5, a6, a7, a8] [.int x] bc bs hp Q ↔ outI kL_law x = true ∧ Q (.inl (some (.int x))) hp := Go_retIf (i := .ireturn) rfl rfl
set_option maxRecDepth 100000 in
theorem sL_law_1125 {x : Int32} : Go kL_law 1125 [a0, a1, a2, a3, a4, a5, (.int x), a7, a8] st bc bs hp Q ↔ Go kL_law 1127 [a0, a1, a2, a3, a4, a5, (.int x), a7, a8] (.int x :: st) bc bs hp Q := Go_next (i := .iload 6) rfl rfl
set_option maxRecDepth 100000 in
theorem sL_law_1127 {x : Int32} : Go kL_law 1127 [a0, a1, a2, a3, a4, a5, a6, a7, a8] (.int x :: st) bc bs hp Q ↔ (¬ x = 0 → Go kL_law 1142 [a0, a1, a2, a3, a4, a5, a6, a7, a8] st bc bs hp Q) ∧ (x = 0 → Go kL_law 1130 [a0, a1, a2, a3, a4, a5, a6, a7, a8] st bc bs hp Q) := Go_ifn (c := x = 0) (i := .ifCond .ne 15) rfl rfl
set_option maxRecDepth 100000 in
theorem sL_law_1130 {x : Nat} : Go kL_law 1130 [a0, a1, a2, (.ref x), a4, a5, a6, a7, a8] st bc bs hp Q ↔ Go kL_law 1131 [a0, a1, a2, (.ref x), a4, a5, a6, a7, a8] (.ref x :: st) bc bs hp Q := Go_next (i := .aload_n 3) rfl rfl
set_option maxRecDepth 100000 in
theorem sL_law_1131 : Go kL_law 1131 [a0, a1, a2, a3, a4, a5, a6, a7, a8] st bc bs hp Q ↔ Go kL_law 1132 [a0, a1, a2, a3, a4, a5, a6, a7, a8] (.int 0 :: st) bc bs hp Q := Go_next (i := .iconst 0) rfl rfl
set_option maxRecDepth 100000 in
theorem sL_law_1132 {x : Nat} {i : Int32} : Go kL_law 1132 [a0, a1, a2, a3, a4, a5, a6, a7, a8] (.int i :: .ref x :: st) bc bs hp Q ↔ RdL hp x i (fun v => Go kL_law 1133 [a0, a1, a2, a3, a4, a5, a6, a7, a8] (.long v :: st) bc bs hp Q) := Go_lald rfl
set_option maxRecDepth 100000 in
theorem sL_law_1133 {x : Int32} : Go kL_law 1133 [a0, a1, a2, a3, a4, a5, a6, (.int x), a8] st bc bs hp Q ↔ Go kL_law 1135 [a0, a1, a2, a3, a4, a5, a6, (.int x), a8] (.int x :: st) bc bs hp Q := Go_next (i := .iload 7) rfl rfl
set_option maxRecDepth 100000 in
theorem sL_law_1135 {x : Int32} : Go kL_law 1135 [a0, a1, a2, a3, a4, a5, a6, a7, a8] (.int x :: st) bc bs hp Q ↔ Go kL_law 1136 [a0, a1, a2, a3, a4, a5, a6, a7, a8] (.long x.toInt64 :: st) bc bs hp Q := Go_next (i := .i2l) rfl rfl
set_option maxRecDepth 100000 in
theorem sL_law_1136 {x y : Int64} : Go kL_law 1136 [a0, a1, a2, a3, a4, a5, a6, a7, a8] (.long y :: .long x :: st) bc bs hp Q ↔ Go kL_law 1137 [a0, a1, a2, a3, a4, a5, a6, a7, a8] (.int (lg_cmp x y) :: st) bc bs hp Q := Go_next (i := .lcmp) rfl rfl
set_option maxRecDepth 100000 in
theorem sL_law_1137 {x : Int32} : Go kL_law 1137 [a0, a1, a2, a3, a4, a5, a6, a7, a8] (.int x :: st) bc bs hp Q ↔ (x = 0 → Go kL_law 1142 [a0, a1, a2, a3, a4, a5, a6, a7, a8] st bc bs hp Q) ∧ (¬ x = 0 → Go kL_law 1140 [a0, a1, a2, a3, a4, a5, a6, a7, a8] st bc bs hp Q) := Go_ift (c := x = 0) (i := .ifCond .eq 5) rfl rfl
set_option maxRecDepth 100000 in
theorem sL_law_1140 : Go kL_law 1140 [a0, a1, a2, a3, a4, a5, a6, a7, a8] st bc bs hp Q ↔ Go kL_law 1141 [a0, a1, a2, a3, a4, a5, a6, a7, a8] (.int 0 :: st) bc bs hp Q := Go_next (i := .iconst 0) rfl rfl
set_option maxRecDepth 100000 in
theorem sL_law_1141 {x : Int32} : Go kL_law 1141 [a0, a1, a2, a3, a4, a5, a6, a7, a8] [.int x] bc bs hp Q ↔ outI kL_law x = true ∧ Q (.inl (some (.int x))) hp := Go_retIf (i := .ireturn) rfl rfl
set_option maxRecDepth 100000 in
theorem sL_law_1142 : Go kL_law 1142 [a0, a1, a2, a3, a4, a5, a6, a7, a8] st bc bs hp Q ↔ Go kL_law 3086 [a0, a1, a2, a3, a4, a5, a6, a7, a8] st bc bs hp Q := Go_next (i := .goto 1944) rfl rfl
set_option maxRecDepth 100000 in
theorem sL_law_1145 {x : Nat} : Go kL_law 1145 [a0, (.ref x), a2, a3, a4, a5, a6, a7, a8] st bc bs hp Q ↔ Go kL_law 1146 [a0, (.ref x), a2, a3, a4, a5, a6, a7, a8] (.ref x :: st) bc bs hp Q := Go_next (i := .aload_n 1) rfl rfl
set_option maxRecDepth 100000 in
theorem sL_law_1146 {x : Nat} : Go kL_law 1146 [(.ref x), a1, a2, a3, a4, a5, a6, a7, a8] st bc bs hp Q ↔ Go kL_law 1147 [(.ref x), a1, a2, a3, a4, a5, a6, a7, a8] (.ref x :: st) bc bs hp Q := Go_next (i := .aload_n 0) rfl rfl
set_option maxRecDepth 100000 in
theorem sL_law_1147 {x : Int32} : Go kL_law 1147 [a0, a1, a2, a3, a4, (.int x), a6, a7, a8] st bc bs hp Q ↔ Go kL_law 1149 [a0, a1, a2, a3, a4, (.int x), a6, a7, a8] (.int x :: st) bc bs hp Q := Go_next (i := .iload 5) rfl rfl
set_option maxRecDepth 100000 in
theorem sL_law_1149 : Go kL_law 1149 [a0, a1, a2, a3, a4, a5, a6, a7, a8] st bc bs hp Q ↔ Go kL_law 1150 [a0, a1, a2, a3, a4, a5, a6, a7, a8] (.int 1 :: st) bc bs hp Q := Go_next (i := .iconst 1) rfl rfl
end
