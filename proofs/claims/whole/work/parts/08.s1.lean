section
variable {a0 a1 a2 a3 a4 a5 a6 a7 a8 : Value} {st : List Value} {bc bs : Nat} {hp : Hp} {Q : Out → Hp → Prop}
theorem sX0_init_0 {x : Nat} : Go kX0_init 0 [(.ref x)] st bc bs hp Q ↔ Go kX0_init 1 [(.ref x)] (.ref x :: st) bc bs hp Q := Go_next (i := .aload_n 0) rfl rfl
theorem sX0_init_1 {x : Nat} : Go kX0_init 1 [a0] (.ref x :: st) bc bs hp Q ↔ nsum st ≤ 8 ∧ Go kX0_init 4 [a0] st bc bs hp Q := Go_on (i := .invokespecial 3) rfl rfl
theorem sX0_init_4 {x : Nat} : Go kX0_init 4 [(.ref x)] st bc bs hp Q ↔ Go kX0_init 5 [(.ref x)] (.ref x :: st) bc bs hp Q := Go_next (i := .aload_n 0) rfl rfl
theorem sX0_init_5 : Go kX0_init 5 [a0] st bc bs hp Q ↔ (1 ≤ bc ∧ 2 ≤ bs) ∧ Go kX0_init 8 [a0] (.ref (hp.1 + 1) :: st) (bc - 1) (bs - 2) (addHp hp (.inr (4, dflt 4))) Q := Go_new rfl rfl (by decide) rfl
theorem sX0_init_8 {x : Nat} : Go kX0_init 8 [a0] (.ref x :: st) bc bs hp Q ↔ Go kX0_init 9 [a0] (.ref x :: .ref x :: st) bc bs hp Q := Go_next (i := .dup) rfl rfl
theorem sX0_init_9 {x : Nat} : Go kX0_init 9 [a0] (.ref x :: st) bc bs hp Q ↔ (1 ≤ bc ∧ 48 ≤ bs ∧ nsum st ≤ 8) ∧ Call kX4_init [.ref x] hp (Aft kX0_init 12 [a0] st (bc - 1) (bs - 48) Q) := Go_inv (i := .invokespecial 11) rfl rfl rfl rfl rfl rfl
theorem sX0_init_12 {x : Nat} {y : Nat} : Go kX0_init 12 [a0] (.ref y :: .ref x :: st) bc bs hp Q ↔ WrF hp x 0 0 (.ref y) (fun hp => Go kX0_init 15 [a0] st bc bs hp Q) := Go_puti rfl rfl (putOK_of rfl rfl rfl)
theorem sX0_init_15 {x : Nat} : Go kX0_init 15 [(.ref x)] st bc bs hp Q ↔ Go kX0_init 16 [(.ref x)] (.ref x :: st) bc bs hp Q := Go_next (i := .aload_n 0) rfl rfl
theorem sX0_init_16 : Go kX0_init 16 [a0] st bc bs hp Q ↔ Go kX0_init 17 [a0] (.int (-1) :: st) bc bs hp Q := Go_next (i := .iconst (-1)) rfl rfl
theorem sX0_init_17 {x : Nat} {y : Int32} : Go kX0_init 17 [a0] (.int y :: .ref x :: st) bc bs hp Q ↔ WrF hp x 0 3 (.int y) (fun hp => Go kX0_init 20 [a0] st bc bs hp Q) := Go_puti rfl rfl (putOK_of rfl rfl rfl)
theorem sX0_init_20 {x : Nat} : Go kX0_init 20 [(.ref x)] st bc bs hp Q ↔ Go kX0_init 21 [(.ref x)] (.ref x :: st) bc bs hp Q := Go_next (i := .aload_n 0) rfl rfl
theorem sX0_init_21 : Go kX0_init 21 [a0] st bc bs hp Q ↔ Go kX0_init 22 [a0] (.int (-1) :: st) bc bs hp Q := Go_next (i := .iconst (-1)) rfl rfl
theorem sX0_init_22 {x : Nat} {y : Int32} : Go kX0_init 22 [a0] (.int y :: .ref x :: st) bc bs hp Q ↔ WrF hp x 0 4 (.int y) (fun hp => Go kX0_init 25 [a0] st bc bs hp Q) := Go_puti rfl rfl (putOK_of rfl rfl rfl)
theorem sX0_init_25 {x : Nat} : Go kX0_init 25 [(.ref x)] st bc bs hp Q ↔ Go kX0_init 26 [(.ref x)] (.ref x :: st) bc bs hp Q := Go_next (i := .aload_n 0) rfl rfl
theorem sX0_init_26 : Go kX0_init 26 [a0] st bc bs hp Q ↔ Go kX0_init 27 [a0] (.int (-1) :: st) bc bs hp Q := Go_next (i := .iconst (-1)) rfl rfl
theorem sX0_init_27 {x : Nat} {y : Int32} : Go kX0_init 27 [a0] (.int y :: .ref x :: st) bc bs hp Q ↔ WrF hp x 0 5 (.int y) (fun hp => Go kX0_init 30 [a0] st bc bs hp Q) := Go_puti rfl rfl (putOK_of rfl rfl rfl)
theorem sX0_init_30 : Go kX0_init 30 [a0] [] bc bs hp Q ↔ Q (.inl none) hp := Go_ret (i := .return_) rfl rfl
theorem sX0_changeTimes_0 {x : Nat} : Go kX0_changeTimes 0 [(.ref x), a1, a2, a3] st bc bs hp Q ↔ Go kX0_changeTimes 1 [(.ref x), a1, a2, a3] (.ref x :: st) bc bs hp Q := Go_next (i := .aload_n 0) rfl rfl
theorem sX0_changeTimes_1 {x : Nat} : Go kX0_changeTimes 1 [a0, a1, a2, a3] (.ref x :: st) bc bs hp Q ↔ RdF hp x 0 1 (fun v => Go kX0_changeTimes 4 [a0, a1, a2, a3] (v :: st) bc bs hp Q) := Go_getf rfl rfl
theorem sX0_changeTimes_4 {x : Nat} : Go kX0_changeTimes 4 [(.ref x), a1, a2, a3] st bc bs hp Q ↔ Go kX0_changeTimes 5 [(.ref x), a1, a2, a3] (.ref x :: st) bc bs hp Q := Go_next (i := .aload_n 0) rfl rfl
theorem sX0_changeTimes_5 {x : Nat} : Go kX0_changeTimes 5 [a0, a1, a2, a3] (.ref x :: st) bc bs hp Q ↔ RdF hp x 0 2 (fun v => Go kX0_changeTimes 8 [a0, a1, a2, a3] (v :: st) bc bs hp Q) := Go_getf rfl rfl
theorem sX0_changeTimes_8 {x y : Int32} : Go kX0_changeTimes 8 [a0, a1, a2, a3] (.int y :: .int x :: st) bc bs hp Q ↔ Go kX0_changeTimes 9 [a0, a1, a2, a3] (.int (x + y) :: st) bc bs hp Q := Go_next (i := .iadd) rfl rfl
theorem sX0_changeTimes_9 {x : Int32} (hj : a2.category = 1) : Go kX0_changeTimes 9 [a0, a1, a2, a3] (.int x :: st) bc bs hp Q ↔ Go kX0_changeTimes 10 [a0, a1, a2, (.int x)] st bc bs hp Q := Go_sto (i := .istore_n 3) (j := 3) (v := .int x) rfl rfl (Nat.le_of_ble_eq_true rfl) (decide_eq_true hj) rfl
theorem sX0_changeTimes_10 {x : Nat} : Go kX0_changeTimes 10 [(.ref x), a1, a2, a3] st bc bs hp Q ↔ Go kX0_changeTimes 11 [(.ref x), a1, a2, a3] (.ref x :: st) bc bs hp Q := Go_next (i := .aload_n 0) rfl rfl
theorem sX0_changeTimes_11 {x : Int32} : Go kX0_changeTimes 11 [a0, (.int x), a2, a3] st bc bs hp Q ↔ Go kX0_changeTimes 12 [a0, (.int x), a2, a3] (.int x :: st) bc bs hp Q := Go_next (i := .iload_n 1) rfl rfl
theorem sX0_changeTimes_12 {x : Nat} {y : Int32} : Go kX0_changeTimes 12 [a0, a1, a2, a3] (.int y :: .ref x :: st) bc bs hp Q ↔ WrF hp x 0 1 (.int y) (fun hp => Go kX0_changeTimes 15 [a0, a1, a2, a3] st bc bs hp Q) := Go_puti rfl rfl (putOK_of rfl rfl rfl)
theorem sX0_changeTimes_15 {x : Nat} : Go kX0_changeTimes 15 [(.ref x), a1, a2, a3] st bc bs hp Q ↔ Go kX0_changeTimes 16 [(.ref x), a1, a2, a3] (.ref x :: st) bc bs hp Q := Go_next (i := .aload_n 0) rfl rfl
theorem sX0_changeTimes_16 {x : Int32} : Go kX0_changeTimes 16 [a0, a1, (.int x), a3] st bc bs hp Q ↔ Go kX0_changeTimes 17 [a0, a1, (.int x), a3] (.int x :: st) bc bs hp Q := Go_next (i := .iload_n 2) rfl rfl
theorem sX0_changeTimes_17 {x : Nat} {y : Int32} : Go kX0_changeTimes 17 [a0, a1, a2, a3] (.int y :: .ref x :: st) bc bs hp Q ↔ WrF hp x 0 2 (.int y) (fun hp => Go kX0_changeTimes 20 [a0, a1, a2, a3] st bc bs hp Q) := Go_puti rfl rfl (putOK_of rfl rfl rfl)
theorem sX0_changeTimes_20 {x : Int32} : Go kX0_changeTimes 20 [a0, a1, a2, (.int x)] st bc bs hp Q ↔ Go kX0_changeTimes 21 [a0, a1, a2, (.int x)] (.int x :: st) bc bs hp Q := Go_next (i := .iload_n 3) rfl rfl
theorem sX0_changeTimes_21 {x : Int32} : Go kX0_changeTimes 21 [a0, a1, a2, a3] [.int x] bc bs hp Q ↔ Q (.inl (some (.int x))) hp := Go_ret (i := .ireturn) rfl rfl
theorem sX0_changeFollow_0 {x : Nat} : Go kX0_changeFollow 0 [(.ref x), a1, a2] st bc bs hp Q ↔ Go kX0_changeFollow 1 [(.ref x), a1, a2] (.ref x :: st) bc bs hp Q := Go_next (i := .aload_n 0) rfl rfl
theorem sX0_changeFollow_1 {x : Nat} : Go kX0_changeFollow 1 [a0, a1, a2] (.ref x :: st) bc bs hp Q ↔ RdF hp x 0 3 (fun v => Go kX0_changeFollow 4 [a0, a1, a2] (v :: st) bc bs hp Q) := Go_getf rfl rfl
theorem sX0_changeFollow_4 {x : Int32} (hj : a1.category = 1) : Go kX0_changeFollow 4 [a0, a1, a2] (.int x :: st) bc bs hp Q ↔ Go kX0_changeFollow 5 [a0, a1, (.int x)] st bc bs hp Q := Go_sto (i := .istore_n 2) (j := 2) (v := .int x) rfl rfl (Nat.le_of_ble_eq_true rfl) (decide_eq_true hj) rfl
theorem sX0_changeFollow_5 {x : Nat} : Go kX0_changeFollow 5 [(.ref x), a1, a2] st bc bs hp Q ↔ Go kX0_changeFollow 6 [(.ref x), a1, a2] (.ref x :: st) bc bs hp Q := Go_next (i := .aload_n 0) rfl rfl
theorem sX0_changeFollow_6 {x : Int32} : Go kX0_changeFollow 6 [a0, (.int x), a2] st bc bs hp Q ↔ Go kX0_changeFollow 7 [a0, (.int x), a2] (.int x :: st) bc bs hp Q := Go_next (i := .iload_n 1) rfl rfl
theorem sX0_changeFollow_7 {x : Nat} {y : Int32} : Go kX0_changeFollow 7 [a0, a1, a2] (.int y :: .ref x :: st) bc bs hp Q ↔ WrF hp x 0 3 (.int y) (fun hp => Go kX0_changeFollow 10 [a0, a1, a2] st bc bs hp Q) := Go_puti rfl rfl (putOK_of rfl rfl rfl)
theorem sX0_changeFollow_10 {x : Int32} : Go kX0_changeFollow 10 [a0, a1, (.int x)] st bc bs hp Q ↔ Go kX0_changeFollow 11 [a0, a1, (.int x)] (.int x :: st) bc bs hp Q := Go_next (i := .iload_n 2) rfl rfl
theorem sX0_changeFollow_11 {x : Int32} : Go kX0_changeFollow 11 [a0, a1, a2] [.int x] bc bs hp Q ↔ Q (.inl (some (.int x))) hp := Go_ret (i := .ireturn) rfl rfl
theorem sX0_changeLink_0 {x : Nat} : Go kX0_changeLink 0 [(.ref x), a1, a2] st bc bs hp Q ↔ Go kX0_changeLink 1 [(.ref x), a1, a2] (.ref x :: st) bc bs hp Q := Go_next (i := .aload_n 0) rfl rfl
theorem sX0_changeLink_1 {x : Nat} : Go kX0_changeLink 1 [a0, a1, a2] (.ref x :: st) bc bs hp Q ↔ RdF hp x 0 4 (fun v => Go kX0_changeLink 4 [a0, a1, a2] (v :: st) bc bs hp Q) := Go_getf rfl rfl
theorem sX0_changeLink_4 {x : Int32} (hj : a1.category = 1) : Go kX0_changeLink 4 [a0, a1, a2] (.int x :: st) bc bs hp Q ↔ Go kX0_changeLink 5 [a0, a1, (.int x)] st bc bs hp Q := Go_sto (i := .istore_n 2) (j := 2) (v := .int x) rfl rfl (Nat.le_of_ble_eq_true rfl) (decide_eq_true hj) rfl
theorem sX0_changeLink_5 {x : Nat} : Go kX0_changeLink 5 [(.ref x), a1, a2] st bc bs hp Q ↔ Go kX0_changeLink 6 [(.ref x), a1, a2] (.ref x :: st) bc bs hp Q := Go_next (i := .aload_n 0) rfl rfl
theorem sX0_changeLink_6 {x : Int32} : Go kX0_changeLink 6 [a0, (.int x), a2] st bc bs hp Q ↔ Go kX0_changeLink 7 [a0, (.int x), a2] (.int x :: st) bc bs hp Q := Go_next (i := .iload_n 1) rfl rfl
theorem sX0_changeLink_7 {x : Nat} {y : Int32} : Go kX0_changeLink 7 [a0, a1, a2] (.int y :: .ref x :: st) bc bs hp Q ↔ WrF hp x 0 4 (.int y) (fun hp => Go kX0_changeLink 10 [a0, a1, a2] st bc bs hp Q) := Go_puti rfl rfl (putOK_of rfl rfl rfl)
theorem sX0_changeLink_10 {x : Int32} : Go kX0_changeLink 10 [a0, a1, (.int x)] st bc bs hp Q ↔ Go kX0_changeLink 11 [a0, a1, (.int x)] (.int x :: st) bc bs hp Q := Go_next (i := .iload_n 2) rfl rfl
theorem sX0_changeLink_11 {x : Int32} : Go kX0_changeLink 11 [a0, a1, a2] [.int x] bc bs hp Q ↔ Q (.inl (some (.int x))) hp := Go_ret (i := .ireturn) rfl rfl
theorem sX0_changeCode_0 {x : Nat} : Go kX0_changeCode 0 [(.ref x), a1, a2] st bc bs hp Q ↔ Go kX0_changeCode 1 [(.ref x), a1, a2] (.ref x :: st) bc bs hp Q := Go_next (i := .aload_n 0) rfl rfl
theorem sX0_changeCode_1 {x : Nat} : Go kX0_changeCode 1 [a0, a1, a2] (.ref x :: st) bc bs hp Q ↔ RdF hp x 0 5 (fun v => Go kX0_changeCode 4 [a0, a1, a2] (v :: st) bc bs hp Q) := Go_getf rfl rfl
theorem sX0_changeCode_4 {x : Int32} (hj : a1.category = 1) : Go kX0_changeCode 4 [a0, a1, a2] (.int x :: st) bc bs hp Q ↔ Go kX0_changeCode 5 [a0, a1, (.int x)] st bc bs hp Q := Go_sto (i := .istore_n 2) (j := 2) (v := .int x) rfl rfl (Nat.le_of_ble_eq_true rfl) (decide_eq_true hj) rfl
theorem sX0_changeCode_5 {x : Nat} : Go kX0_changeCode 5 [(.ref x), a1, a2] st bc bs hp Q ↔ Go kX0_changeCode 6 [(.ref x), a1, a2] (.ref x :: st) bc bs hp Q := Go_next (i := .aload_n 0) rfl rfl
theorem sX0_changeCode_6 {x : Int32} : Go kX0_changeCode 6 [a0, (.int x), a2] st bc bs hp Q ↔ Go kX0_changeCode 7 [a0, (.int x), a2] (.int x :: st) bc bs hp Q := Go_next (i := .iload_n 1) rfl rfl
theorem sX0_changeCode_7 {x : Nat} {y : Int32} : Go kX0_changeCode 7 [a0, a1, a2] (.int y :: .ref x :: st) bc bs hp Q ↔ WrF hp x 0 5 (.int y) (fun hp => Go kX0_changeCode 10 [a0, a1, a2] st bc bs hp Q) := Go_puti rfl rfl (putOK_of rfl rfl rfl)
theorem sX0_changeCode_10 {x : Int32} : Go kX0_changeCode 10 [a0, a1, (.int x)] st bc bs hp Q ↔ Go kX0_changeCode 11 [a0, a1, (.int x)] (.int x :: st) bc bs hp Q := Go_next (i := .iload_n 2) rfl rfl
theorem sX0_changeCode_11 {x : Int32} : Go kX0_changeCode 11 [a0, a1, a2] [.int x] bc bs hp Q ↔ Q (.inl (some (.int x))) hp := Go_ret (i := .ireturn) rfl rfl
theorem sX0_changeAssert_0 {x : Nat} : Go kX0_changeAssert 0 [(.ref x), a1, a2] st bc bs hp Q ↔ Go kX0_changeAssert 1 [(.ref x), a1, a2] (.ref x :: st) bc bs hp Q := Go_next (i := .aload_n 0) rfl rfl
theorem sX0_changeAssert_1 {x : Nat} : Go kX0_changeAssert 1 [a0, a1, a2] (.ref x :: st) bc bs hp Q ↔ RdF hp x 0 6 (fun v => Go kX0_changeAssert 4 [a0, a1, a2] (v :: st) bc bs hp Q) := Go_getf rfl rfl
theorem sX0_changeAssert_4 {x : Int32} (hj : a1.category = 1) : Go kX0_changeAssert 4 [a0, a1, a2] (.int x :: st) bc bs hp Q ↔ Go kX0_changeAssert 5 [a0, a1, (.int x)] st bc bs hp Q := Go_sto (i := .istore_n 2) (j := 2) (v := .int x) rfl rfl (Nat.le_of_ble_eq_true rfl) (decide_eq_true hj) rfl
theorem sX0_changeAssert_5 {x : Nat} : Go kX0_changeAssert 5 [(.ref x), a1, a2] st bc bs hp Q ↔ Go kX0_changeAssert 6 [(.ref x), a1, a2] (.ref x :: st) bc bs hp Q := Go_next (i := .aload_n 0) rfl rfl
theorem sX0_changeAssert_6 {x : Int32} : Go kX0_changeAssert 6 [a0, (.int x), a2] st bc bs hp Q ↔ Go kX0_changeAssert 7 [a0, (.int x), a2] (.int x :: st) bc bs hp Q := Go_next (i := .iload_n 1) rfl rfl
theorem sX0_changeAssert_7 {x : Nat} {y : Int32} : Go kX0_changeAssert 7 [a0, a1, a2] (.int y :: .ref x :: st) bc bs hp Q ↔ putOK kX0_changeAssert 0 6 (.int y) = true ∧ WrF hp x 0 6 (.int y) (fun hp => Go kX0_changeAssert 10 [a0, a1, a2] st bc bs hp Q) := Go_putf rfl rfl
theorem sX0_changeAssert_10 {x : Int32} : Go kX0_changeAssert 10 [a0, a1, (.int x)] st bc bs hp Q ↔ Go kX0_changeAssert 11 [a0, a1, (.int x)] (.int x :: st) bc bs hp Q := Go_next (i := .iload_n 2) rfl rfl
theorem sX0_changeAssert_11 {x : Int32} : Go kX0_changeAssert 11 [a0, a1, a2] [.int x] bc bs hp Q ↔ outI kX0_changeAssert x = true ∧ Q (.inl (some (.int x))) hp := Go_retIf (i := .ireturn) rfl rfl
theorem sX3_init_0 {x : Nat} : Go kX3_init 0 [(.ref x)] st bc bs hp Q ↔ Go kX3_init 1 [(.ref x)] (.ref x :: st) bc bs hp Q := Go_next (i := .aload_n 0) rfl rfl
theorem sX3_init_1 {x : Nat} : Go kX3_init 1 [a0] (.ref x :: st) bc bs hp Q ↔ nsum st ≤ 8 ∧ Go kX3_init 4 [a0] st bc bs hp Q := Go_on (i := .invokespecial 3) rfl rfl
theorem sX3_init_4 {x : Nat} : Go kX3_init 4 [(.ref x)] st bc bs hp Q ↔ Go kX3_init 5 [(.ref x)] (.ref x :: st) bc bs hp Q := Go_next (i := .aload_n 0) rfl rfl
theorem sX3_init_5 : Go kX3_init 5 [a0] st bc bs hp Q ↔ Go kX3_init 6 [a0] (.int 2 :: st) bc bs hp Q := Go_next (i := .iconst 2) rfl rfl
theorem sX3_init_6 {x : Nat} {y : Int32} : Go kX3_init 6 [a0] (.int y :: .ref x :: st) bc bs hp Q ↔ WrF hp x 3 4 (.int y) (fun hp => Go kX3_init 9 [a0] st bc bs hp Q) := Go_puti rfl rfl (putOK_of rfl rfl rfl)
theorem sX3_init_9 {x : Nat} : Go kX3_init 9 [(.ref x)] st bc bs hp Q ↔ Go kX3_init 10 [(.ref x)] (.ref x :: st) bc bs hp Q := Go_next (i := .aload_n 0) rfl rfl
theorem sX3_init_10 : Go kX3_init 10 [a0] st bc bs hp Q ↔ Go kX3_init 11 [a0] (.int (-1) :: st) bc bs hp Q := Go_next (i := .iconst (-1)) rfl rfl
theorem sX3_init_11 {x : Nat} {y : Int32} : Go kX3_init 11 [a0] (.int y :: .ref x :: st) bc bs hp Q ↔ WrF hp x 3 6 (.int y) (fun hp => Go kX3_init 14 [a0] st bc bs hp Q) := Go_puti rfl rfl (putOK_of rfl rfl rfl)
theorem sX3_init_14 : Go kX3_init 14 [a0] [] bc bs hp Q ↔ Q (.inl none) hp := Go_ret (i := .return_) rfl rfl
theorem sX3_describe_0 {x : Nat} : Go kX3_describe 0 [(.ref x), a1, a2, a3, a4, a5, a6] st bc bs hp Q ↔ Go kX3_describe 1 [(.ref x), a1, a2, a3, a4, a5, a6] (.ref x :: st) bc bs hp Q := Go_next (i := .aload_n 0) rfl rfl
theorem sX3_describe_1 {x : Int32} : Go kX3_describe 1 [a0, (.int x), a2, a3, a4, a5, a6] st bc bs hp Q ↔ Go kX3_describe 2 [a0, (.int x), a2, a3, a4, a5, a6] (.int x :: st) bc bs hp Q := Go_next (i := .iload_n 1) rfl rfl
theorem sX3_describe_2 {x : Nat} {y : Int32} : Go kX3_describe 2 [a0, a1, a2, a3, a4, a5, a6] (.int y :: .ref x :: st) bc bs hp Q ↔ WrF hp x 3 0 (.int y) (fun hp => Go kX3_describe 5 [a0, a1, a2, a3, a4, a5, a6] st bc bs hp Q) := Go_puti rfl rfl (putOK_of rfl rfl rfl)
theorem sX3_describe_5 {x : Nat} : Go kX3_describe 5 [(.ref x), a1, a2, a3, a4, a5, a6] st bc bs hp Q ↔ Go kX3_describe 6 [(.ref x), a1, a2, a3, a4, a5, a6] (.ref x :: st) bc bs hp Q := Go_next (i := .aload_n 0) rfl rfl
theorem sX3_describe_6 {x : Int32} : Go kX3_describe 6 [a0, a1, (.int x), a3, a4, a5, a6] st bc bs hp Q ↔ Go kX3_describe 7 [a0, a1, (.int x), a3, a4, a5, a6] (.int x :: st) bc bs hp Q := Go_next (i := .iload_n 2) rfl rfl
theorem sX3_describe_7 {x : Nat} {y : Int32} : Go kX3_describe 7 [a0, a1, a2, a3, a4, a5, a6] (.int y :: .ref x :: st) bc bs hp Q ↔ WrF hp x 3 1 (.int y) (fun hp => Go kX3_describe 10 [a0, a1, a2, a3, a4, a5, a6] st bc bs hp Q) := Go_puti rfl rfl (putOK_of rfl rfl rfl)
theorem sX3_describe_10 {x : Nat} : Go kX3_describe 10 [(.ref x), a1, a2, a3, a4, a5, a6] st bc bs hp Q ↔ Go kX3_describe 11 [(.ref x), a1, a2, a3, a4, a5, a6] (.ref x :: st) bc bs hp Q := Go_next (i := .aload_n 0) rfl rfl
theorem sX3_describe_11 {x : Int32} : Go kX3_describe 11 [a0, a1, a2, (.int x), a4, a5, a6] st bc bs hp Q ↔ Go kX3_describe 12 [a0, a1, a2, (.int x), a4, a5, a6] (.int x :: st) bc bs hp Q := Go_next (i := .iload_n 3) rfl rfl
theorem sX3_describe_12 {x : Nat} {y : Int32} : Go kX3_describe 12 [a0, a1, a2, a3, a4, a5, a6] (.int y :: .ref x :: st) bc bs hp Q ↔ putOK kX3_describe 3 2 (.int y) = true ∧ WrF hp x 3 2 (.int y) (fun hp => Go kX3_describe 15 [a0, a1, a2, a3, a4, a5, a6] st bc bs hp Q) := Go_putf rfl rfl
theorem sX3_describe_15 {x : Nat} : Go kX3_describe 15 [(.ref x), a1, a2, a3, a4, a5, a6] st bc bs hp Q ↔ Go kX3_describe 16 [(.ref x), a1, a2, a3, a4, a5, a6] (.ref x :: st) bc bs hp Q := Go_next (i := .aload_n 0) rfl rfl
theorem sX3_describe_16 {x : Int32} : Go kX3_describe 16 [a0, a1, a2, a3, (.int x), a5, a6] st bc bs hp Q ↔ Go kX3_describe 18 [a0, a1, a2, a3, (.int x), a5, a6] (.int x :: st) bc bs hp Q := Go_next (i := .iload 4) rfl rfl
theorem sX3_describe_18 {x : Nat} {y : Int32} : Go kX3_describe 18 [a0, a1, a2, a3, a4, a5, a6] (.int y :: .ref x :: st) bc bs hp Q ↔ WrF hp x 3 3 (.int y) (fun hp => Go kX3_describe 21 [a0, a1, a2, a3, a4, a5, a6] st bc bs hp Q) := Go_puti rfl rfl (putOK_of rfl rfl rfl)
theorem sX3_describe_21 {x : Nat} : Go kX3_describe 21 [(.ref x), a1, a2, a3, a4, a5, a6] st bc bs hp Q ↔ Go kX3_describe 22 [(.ref x), a1, a2, a3, a4, a5, a6] (.ref x :: st) bc bs hp Q := Go_next (i := .aload_n 0) rfl rfl
theorem sX3_describe_22 {x : Int32} : Go kX3_describe 22 [a0, a1, a2, a3, a4, (.int x), a6] st bc bs hp Q ↔ Go kX3_describe 24 [a0, a1, a2, a3, a4, (.int x), a6] (.int x :: st) bc bs hp Q := Go_next (i := .iload 5) rfl rfl
theorem sX3_describe_24 {x : Nat} {y : Int32} : Go kX3_describe 24 [a0, a1, a2, a3, a4, a5, a6] (.int y :: .ref x :: st) bc bs hp Q ↔ WrF hp x 3 4 (.int y) (fun hp => Go kX3_describe 27 [a0, a1, a2, a3, a4, a5, a6] st bc bs hp Q) := Go_puti rfl rfl (putOK_of rfl rfl rfl)
theorem sX3_describe_27 {x : Nat} : Go kX3_describe 27 [(.ref x), a1, a2, a3, a4, a5, a6] st bc bs hp Q ↔ Go kX3_describe 28 [(.ref x), a1, a2, a3, a4, a5, a6] (.ref x :: st) bc bs hp Q := Go_next (i := .aload_n 0) rfl rfl
theorem sX3_describe_28 {x : Int32} : Go kX3_describe 28 [a0, a1, a2, a3, a4, a5, (.int x)] st bc bs hp Q ↔ Go kX3_describe 30 [a0, a1, a2, a3, a4, a5, (.int x)] (.int x :: st) bc bs hp Q := Go_next (i := .iload 6) rfl rfl
theorem sX3_describe_30 {x : Nat} {y : Int32} : Go kX3_describe 30 [a0, a1, a2, a3, a4, a5, a6] (.int y :: .ref x :: st) bc bs hp Q ↔ WrF hp x 3 5 (.int y) (fun hp => Go kX3_describe 33 [a0, a1, a2, a3, a4, a5, a6] st bc bs hp Q) := Go_puti rfl rfl (putOK_of rfl rfl rfl)
theorem sX3_describe_33 : Go kX3_describe 33 [a0, a1, a2, a3, a4, a5, a6] [] bc bs hp Q ↔ Q (.inl none) hp := Go_ret (i := .return_) rfl rfl
theorem sX3_runs_0 {x : Nat} : Go kX3_runs 0 [(.ref x)] st bc bs hp Q ↔ Go kX3_runs 1 [(.ref x)] (.ref x :: st) bc bs hp Q := Go_next (i := .aload_n 0) rfl rfl
theorem sX3_runs_1 {x : Nat} : Go kX3_runs 1 [a0] (.ref x :: st) bc bs hp Q ↔ RdF hp x 3 6 (fun v => Go kX3_runs 4 [a0] (v :: st) bc bs hp Q) := Go_getf rfl rfl
theorem sX3_runs_4 : Go kX3_runs 4 [a0] st bc bs hp Q ↔ Go kX3_runs 5 [a0] (.int (-1) :: st) bc bs hp Q := Go_next (i := .iconst (-1)) rfl rfl
theorem sX3_runs_5 {x y : Int32} : Go kX3_runs 5 [a0] (.int y :: .int x :: st) bc bs hp Q ↔ (x = y → Go kX3_runs 12 [a0] st bc bs hp Q) ∧ (¬ x = y → Go kX3_runs 8 [a0] st bc bs hp Q) := Go_ift (c := x = y) (i := .if_icmp .eq 7) rfl rfl
theorem sX3_runs_8 : Go kX3_runs 8 [a0] st bc bs hp Q ↔ Go kX3_runs 9 [a0] (.int 1 :: st) bc bs hp Q := Go_next (i := .iconst 1) rfl rfl
theorem sX3_runs_9 : Go kX3_runs 9 [a0] st bc bs hp Q ↔ Go kX3_runs 13 [a0] st bc bs hp Q := Go_next (i := .goto 4) rfl rfl
theorem sX3_runs_12 : Go kX3_runs 12 [a0] st bc bs hp Q ↔ Go kX3_runs 13 [a0] (.int 0 :: st) bc bs hp Q := Go_next (i := .iconst 0) rfl rfl
theorem sX3_runs_13 {x : Int32} : Go kX3_runs 13 [a0] [.int x] bc bs hp Q ↔ outI kX3_runs x = true ∧ Q (.inl (some (.int x))) hp := Go_retIf (i := .ireturn) rfl rfl
theorem sX3_wave_0 {x : Int32} : Go kX3_wave 0 [a0, a1, (.int x), a3, a4, a5, a6] st bc bs hp Q ↔ Go kX3_wave 1 [a0, a1, (.int x), a3, a4, a5, a6] (.int x :: st) bc bs hp Q := Go_next (i := .iload_n 2) rfl rfl
theorem sX3_wave_1 {x : Nat} : Go kX3_wave 1 [(.ref x), a1, a2, a3, a4, a5, a6] st bc bs hp Q ↔ Go kX3_wave 2 [(.ref x), a1, a2, a3, a4, a5, a6] (.ref x :: st) bc bs hp Q := Go_next (i := .aload_n 0) rfl rfl
theorem sX3_wave_2 {x : Nat} : Go kX3_wave 2 [a0, a1, a2, a3, a4, a5, a6] (.ref x :: st) bc bs hp Q ↔ RdF hp x 3 6 (fun v => Go kX3_wave 5 [a0, a1, a2, a3, a4, a5, a6] (v :: st) bc bs hp Q) := Go_getf rfl rfl
theorem sX3_wave_5 {x y : Int32} : Go kX3_wave 5 [a0, a1, a2, a3, a4, a5, a6] (.int y :: .int x :: st) bc bs hp Q ↔ Go kX3_wave 6 [a0, a1, a2, a3, a4, a5, a6] (.int (x - y) :: st) bc bs hp Q := Go_next (i := .isub) rfl rfl
theorem sX3_wave_6 {x : Int32} : Go kX3_wave 6 [a0, (.int x), a2, a3, a4, a5, a6] st bc bs hp Q ↔ Go kX3_wave 7 [a0, (.int x), a2, a3, a4, a5, a6] (.int x :: st) bc bs hp Q := Go_next (i := .iload_n 1) rfl rfl
theorem sX3_wave_7 {x : Nat} : Go kX3_wave 7 [(.ref x), a1, a2, a3, a4, a5, a6] st bc bs hp Q ↔ Go kX3_wave 8 [(.ref x), a1, a2, a3, a4, a5, a6] (.ref x :: st) bc bs hp Q := Go_next (i := .aload_n 0) rfl rfl
theorem sX3_wave_8 {x : Nat} : Go kX3_wave 8 [a0, a1, a2, a3, a4, a5, a6] (.ref x :: st) bc bs hp Q ↔ RdF hp x 3 5 (fun v => Go kX3_wave 11 [a0, a1, a2, a3, a4, a5, a6] (v :: st) bc bs hp Q) := Go_getf rfl rfl
theorem sX3_wave_11 {x y : Int32} : Go kX3_wave 11 [a0, a1, a2, a3, a4, a5, a6] (.int y :: .int x :: st) bc bs hp Q ↔ Go kX3_wave 12 [a0, a1, a2, a3, a4, a5, a6] (.int (x * y) :: st) bc bs hp Q := Go_next (i := .imul) rfl rfl
theorem sX3_wave_12 {x y : Int32} : Go kX3_wave 12 [a0, a1, a2, a3, a4, a5, a6] (.int y :: .int x :: st) bc bs hp Q ↔ Go kX3_wave 13 [a0, a1, a2, a3, a4, a5, a6] (.int (x + y) :: st) bc bs hp Q := Go_next (i := .iadd) rfl rfl
theorem sX3_wave_13 {x : Nat} : Go kX3_wave 13 [(.ref x), a1, a2, a3, a4, a5, a6] st bc bs hp Q ↔ Go kX3_wave 14 [(.ref x), a1, a2, a3, a4, a5, a6] (.ref x :: st) bc bs hp Q := Go_next (i := .aload_n 0) rfl rfl
theorem sX3_wave_14 {x : Nat} : Go kX3_wave 14 [a0, a1, a2, a3, a4, a5, a6] (.ref x :: st) bc bs hp Q ↔ RdF hp x 3 4 (fun v => Go kX3_wave 17 [a0, a1, a2, a3, a4, a5, a6] (v :: st) bc bs hp Q) := Go_getf rfl rfl
theorem sX3_wave_17 {x y : Int32} (hy : ¬ y = 0) : Go kX3_wave 17 [a0, a1, a2, a3, a4, a5, a6] (.int y :: .int x :: st) bc bs hp Q ↔ Go kX3_wave 18 [a0, a1, a2, a3, a4, a5, a6] (.int (x - x / y * y) :: st) bc bs hp Q := Go_next (i := .irem) rfl (by simp only [act, if_neg hy]; rfl)
theorem sX3_wave_18 {x : Int32} (hj : a2.category = 1) : Go kX3_wave 18 [a0, a1, a2, a3, a4, a5, a6] (.int x :: st) bc bs hp Q ↔ Go kX3_wave 19 [a0, a1, a2, (.int x), a4, a5, a6] st bc bs hp Q := Go_sto (i := .istore_n 3) (j := 3) (v := .int x) rfl rfl (Nat.le_of_ble_eq_true rfl) (decide_eq_true hj) rfl
theorem sX3_wave_19 {x : Nat} : Go kX3_wave 19 [(.ref x), a1, a2, a3, a4, a5, a6] st bc bs hp Q ↔ Go kX3_wave 20 [(.ref x), a1, a2, a3, a4, a5, a6] (.ref x :: st) bc bs hp Q := Go_next (i := .aload_n 0) rfl rfl
theorem sX3_wave_20 {x : Nat} : Go kX3_wave 20 [a0, a1, a2, a3, a4, a5, a6] (.ref x :: st) bc bs hp Q ↔ RdF hp x 3 3 (fun v => Go kX3_wave 23 [a0, a1, a2, a3, a4, a5, a6] (v :: st) bc bs hp Q) := Go_getf rfl rfl
theorem sX3_wave_23 {x : Int32} : Go kX3_wave 23 [a0, a1, a2, a3, a4, a5, a6] (.int x :: st) bc bs hp Q ↔ Go kX3_wave 24 [a0, a1, a2, a3, a4, a5, a6] (.float (FP.i2f x) :: st) bc bs hp Q := Go_next (i := .i2f) rfl rfl
theorem sX3_wave_24 {x : UInt32} (hj : a3.category = 1) : Go kX3_wave 24 [a0, a1, a2, a3, a4, a5, a6] (.float x :: st) bc bs hp Q ↔ Go kX3_wave 26 [a0, a1, a2, a3, (.float x), a5, a6] st bc bs hp Q := Go_sto (i := .fstore 4) (j := 4) (v := .float x) rfl rfl (Nat.le_of_ble_eq_true rfl) (decide_eq_true hj) rfl
theorem sX3_wave_26 {x : Int32} : Go kX3_wave 26 [a0, a1, a2, (.int x), a4, a5, a6] st bc bs hp Q ↔ Go kX3_wave 27 [a0, a1, a2, (.int x), a4, a5, a6] (.int x :: st) bc bs hp Q := Go_next (i := .iload_n 3) rfl rfl
theorem sX3_wave_27 {x : Int32} : Go kX3_wave 27 [a0, a1, a2, a3, a4, a5, a6] (.int x :: st) bc bs hp Q ↔ Go kX3_wave 28 [a0, a1, a2, a3, a4, a5, a6] (.float (FP.i2f x) :: st) bc bs hp Q := Go_next (i := .i2f) rfl rfl
theorem sX3_wave_28 {x : UInt32} (hj : a4.category = 1) : Go kX3_wave 28 [a0, a1, a2, a3, a4, a5, a6] (.float x :: st) bc bs hp Q ↔ Go kX3_wave 30 [a0, a1, a2, a3, a4, (.float x), a6] st bc bs hp Q := Go_sto (i := .fstore 5) (j := 5) (v := .float x) rfl rfl (Nat.le_of_ble_eq_true rfl) (decide_eq_true hj) rfl
theorem sX3_wave_30 {x : Nat} : Go kX3_wave 30 [(.ref x), a1, a2, a3, a4, a5, a6] st bc bs hp Q ↔ Go kX3_wave 31 [(.ref x), a1, a2, a3, a4, a5, a6] (.ref x :: st) bc bs hp Q := Go_next (i := .aload_n 0) rfl rfl
theorem sX3_wave_31 {x : Nat} : Go kX3_wave 31 [a0, a1, a2, a3, a4, a5, a6] (.ref x :: st) bc bs hp Q ↔ RdF hp x 3 4 (fun v => Go kX3_wave 34 [a0, a1, a2, a3, a4, a5, a6] (v :: st) bc bs hp Q) := Go_getf rfl rfl
theorem sX3_wave_34 {x : Int32} : Go kX3_wave 34 [a0, a1, a2, a3, a4, a5, a6] (.int x :: st) bc bs hp Q ↔ Go kX3_wave 35 [a0, a1, a2, a3, a4, a5, a6] (.float (FP.i2f x) :: st) bc bs hp Q := Go_next (i := .i2f) rfl rfl
theorem sX3_wave_35 {x : UInt32} (hj : a5.category = 1) : Go kX3_wave 35 [a0, a1, a2, a3, a4, a5, a6] (.float x :: st) bc bs hp Q ↔ Go kX3_wave 37 [a0, a1, a2, a3, a4, a5, (.float x)] st bc bs hp Q := Go_sto (i := .fstore 6) (j := 6) (v := .float x) rfl rfl (Nat.le_of_ble_eq_true rfl) (decide_eq_true hj) rfl
theorem sX3_wave_37 {x : Nat} : Go kX3_wave 37 [(.ref x), a1, a2, a3, a4, a5, a6] st bc bs hp Q ↔ Go kX3_wave 38 [(.ref x), a1, a2, a3, a4, a5, a6] (.ref x :: st) bc bs hp Q := Go_next (i := .aload_n 0) rfl rfl
theorem sX3_wave_38 {x : Nat} : Go kX3_wave 38 [a0, a1, a2, a3, a4, a5, a6] (.ref x :: st) bc bs hp Q ↔ RdF hp x 3 2 (fun v => Go kX3_wave 41 [a0, a1, a2, a3, a4, a5, a6] (v :: st) bc bs hp Q) := Go_getf rfl rfl
theorem sX3_wave_41 : Go kX3_wave 41 [a0, a1, a2, a3, a4, a5, a6] st bc bs hp Q ↔ Go kX3_wave 43 [a0, a1, a2, a3, a4, a5, a6] (.int 119 :: st) bc bs hp Q := Go_next (i := .bipush 119) rfl rfl
theorem sX3_wave_43 {x y : Int32} : Go kX3_wave 43 [a0, a1, a2, a3, a4, a5, a6] (.int y :: .int x :: st) bc bs hp Q ↔ (¬ x = y → Go kX3_wave 55 [a0, a1, a2, a3, a4, a5, a6] st bc bs hp Q) ∧ (x = y → Go kX3_wave 46 [a0, a1, a2, a3, a4, a5, a6] st bc bs hp Q) := Go_ifn (c := x = y) (i := .if_icmp .ne 12) rfl rfl
theorem sX3_wave_46 {x : UInt32} : Go kX3_wave 46 [a0, a1, a2, a3, (.float x), a5, a6] st bc bs hp Q ↔ Go kX3_wave 48 [a0, a1, a2, a3, (.float x), a5, a6] (.float x :: st) bc bs hp Q := Go_next (i := .fload 4) rfl rfl
theorem sX3_wave_48 {x : UInt32} : Go kX3_wave 48 [a0, a1, a2, a3, a4, (.float x), a6] st bc bs hp Q ↔ Go kX3_wave 50 [a0, a1, a2, a3, a4, (.float x), a6] (.float x :: st) bc bs hp Q := Go_next (i := .fload 5) rfl rfl
theorem sX3_wave_50 {x : UInt32} : Go kX3_wave 50 [a0, a1, a2, a3, a4, a5, (.float x)] st bc bs hp Q ↔ Go kX3_wave 52 [a0, a1, a2, a3, a4, a5, (.float x)] (.float x :: st) bc bs hp Q := Go_next (i := .fload 6) rfl rfl
theorem sX3_wave_52 {x y : UInt32} : Go kX3_wave 52 [a0, a1, a2, a3, a4, a5, a6] (.float y :: .float x :: st) bc bs hp Q ↔ nn32 (FP.fdiv x y) = true ∧ Go kX3_wave 53 [a0, a1, a2, a3, a4, a5, a6] (.float (FP.fdiv x y) :: st) bc bs hp Q := Go_on (i := .fdiv) rfl rfl
theorem sX3_wave_53 {x y : UInt32} : Go kX3_wave 53 [a0, a1, a2, a3, a4, a5, a6] (.float y :: .float x :: st) bc bs hp Q ↔ nn32 (FP.fmul x y) = true ∧ Go kX3_wave 54 [a0, a1, a2, a3, a4, a5, a6] (.float (FP.fmul x y) :: st) bc bs hp Q := Go_on (i := .fmul) rfl rfl
theorem sX3_wave_54 {x : UInt32} : Go kX3_wave 54 [a0, a1, a2, a3, a4, a5, a6] [.float x] bc bs hp Q ↔ Q (.inl (some (.float x))) hp := Go_ret (i := .freturn) rfl rfl
theorem sX3_wave_55 {x : Nat} : Go kX3_wave 55 [(.ref x), a1, a2, a3, a4, a5, a6] st bc bs hp Q ↔ Go kX3_wave 56 [(.ref x), a1, a2, a3, a4, a5, a6] (.ref x :: st) bc bs hp Q := Go_next (i := .aload_n 0) rfl rfl
theorem sX3_wave_56 {x : Nat} : Go kX3_wave 56 [a0, a1, a2, a3, a4, a5, a6] (.ref x :: st) bc bs hp Q ↔ RdF hp x 3 2 (fun v => Go kX3_wave 59 [a0, a1, a2, a3, a4, a5, a6] (v :: st) bc bs hp Q) := Go_getf rfl rfl
theorem sX3_wave_59 : Go kX3_wave 59 [a0, a1, a2, a3, a4, a5, a6] st bc bs hp Q ↔ Go kX3_wave 61 [a0, a1, a2, a3, a4, a5, a6] (.int 116 :: st) bc bs hp Q := Go_next (i := .bipush 116) rfl rfl
theorem sX3_wave_61 {x y : Int32} : Go kX3_wave 61 [a0, a1, a2, a3, a4, a5, a6] (.int y :: .int x :: st) bc bs hp Q ↔ (¬ x = y → Go kX3_wave 100 [a0, a1, a2, a3, a4, a5, a6] st bc bs hp Q) ∧ (x = y → Go kX3_wave 64 [a0, a1, a2, a3, a4, a5, a6] st bc bs hp Q) := Go_ifn (c := x = y) (i := .if_icmp .ne 39) rfl rfl
theorem sX3_wave_64 : Go kX3_wave 64 [a0, a1, a2, a3, a4, a5, a6] st bc bs hp Q ↔ Go kX3_wave 65 [a0, a1, a2, a3, a4, a5, a6] (.int 2 :: st) bc bs hp Q := Go_next (i := .iconst 2) rfl rfl
theorem sX3_wave_65 {x : Int32} : Go kX3_wave 65 [a0, a1, a2, (.int x), a4, a5, a6] st bc bs hp Q ↔ Go kX3_wave 66 [a0, a1, a2, (.int x), a4, a5, a6] (.int x :: st) bc bs hp Q := Go_next (i := .iload_n 3) rfl rfl
theorem sX3_wave_66 {x y : Int32} : Go kX3_wave 66 [a0, a1, a2, a3, a4, a5, a6] (.int y :: .int x :: st) bc bs hp Q ↔ Go kX3_wave 67 [a0, a1, a2, a3, a4, a5, a6] (.int (x * y) :: st) bc bs hp Q := Go_next (i := .imul) rfl rfl
theorem sX3_wave_67 {x : Nat} : Go kX3_wave 67 [(.ref x), a1, a2, a3, a4, a5, a6] st bc bs hp Q ↔ Go kX3_wave 68 [(.ref x), a1, a2, a3, a4, a5, a6] (.ref x :: st) bc bs hp Q := Go_next (i := .aload_n 0) rfl rfl
theorem sX3_wave_68 {x : Nat} : Go kX3_wave 68 [a0, a1, a2, a3, a4, a5, a6] (.ref x :: st) bc bs hp Q ↔ RdF hp x 3 4 (fun v => Go kX3_wave 71 [a0, a1, a2, a3, a4, a5, a6] (v :: st) bc bs hp Q) := Go_getf rfl rfl
theorem sX3_wave_71 {x y : Int32} : Go kX3_wave 71 [a0, a1, a2, a3, a4, a5, a6] (.int y :: .int x :: st) bc bs hp Q ↔ (x ≤ y → Go kX3_wave 89 [a0, a1, a2, a3, a4, a5, a6] st bc bs hp Q) ∧ (¬ x ≤ y → Go kX3_wave 74 [a0, a1, a2, a3, a4, a5, a6] st bc bs hp Q) := Go_ift (c := x ≤ y) (i := .if_icmp .le 18) rfl rfl
theorem sX3_wave_74 {x : UInt32} : Go kX3_wave 74 [a0, a1, a2, a3, (.float x), a5, a6] st bc bs hp Q ↔ Go kX3_wave 76 [a0, a1, a2, a3, (.float x), a5, a6] (.float x :: st) bc bs hp Q := Go_next (i := .fload 4) rfl rfl
theorem sX3_wave_76 : Go kX3_wave 76 [a0, a1, a2, a3, a4, a5, a6] st bc bs hp Q ↔ Go kX3_wave 77 [a0, a1, a2, a3, a4, a5, a6] (.float FP.fconst2 :: st) bc bs hp Q := Go_next (i := .fconst 2) rfl rfl
theorem sX3_wave_77 : Go kX3_wave 77 [a0, a1, a2, a3, a4, a5, a6] st bc bs hp Q ↔ Go kX3_wave 78 [a0, a1, a2, a3, a4, a5, a6] (.float FP.fconst2 :: st) bc bs hp Q := Go_next (i := .fconst 2) rfl rfl
theorem sX3_wave_78 {x : UInt32} : Go kX3_wave 78 [a0, a1, a2, a3, a4, (.float x), a6] st bc bs hp Q ↔ Go kX3_wave 80 [a0, a1, a2, a3, a4, (.float x), a6] (.float x :: st) bc bs hp Q := Go_next (i := .fload 5) rfl rfl
theorem sX3_wave_80 {x y : UInt32} : Go kX3_wave 80 [a0, a1, a2, a3, a4, a5, a6] (.float y :: .float x :: st) bc bs hp Q ↔ nn32 (FP.fmul x y) = true ∧ Go kX3_wave 81 [a0, a1, a2, a3, a4, a5, a6] (.float (FP.fmul x y) :: st) bc bs hp Q := Go_on (i := .fmul) rfl rfl
theorem sX3_wave_81 {x : UInt32} : Go kX3_wave 81 [a0, a1, a2, a3, a4, a5, (.float x)] st bc bs hp Q ↔ Go kX3_wave 83 [a0, a1, a2, a3, a4, a5, (.float x)] (.float x :: st) bc bs hp Q := Go_next (i := .fload 6) rfl rfl
theorem sX3_wave_83 {x y : UInt32} : Go kX3_wave 83 [a0, a1, a2, a3, a4, a5, a6] (.float y :: .float x :: st) bc bs hp Q ↔ nn32 (FP.fdiv x y) = true ∧ Go kX3_wave 84 [a0, a1, a2, a3, a4, a5, a6] (.float (FP.fdiv x y) :: st) bc bs hp Q := Go_on (i := .fdiv) rfl rfl
theorem sX3_wave_84 {x y : UInt32} : Go kX3_wave 84 [a0, a1, a2, a3, a4, a5, a6] (.float y :: .float x :: st) bc bs hp Q ↔ nn32 (FP.fsub x y) = true ∧ Go kX3_wave 85 [a0, a1, a2, a3, a4, a5, a6] (.float (FP.fsub x y) :: st) bc bs hp Q := Go_on (i := .fsub) rfl rfl
theorem sX3_wave_85 {x y : UInt32} : Go kX3_wave 85 [a0, a1, a2, a3, a4, a5, a6] (.float y :: .float x :: st) bc bs hp Q ↔ nn32 (FP.fmul x y) = true ∧ Go kX3_wave 86 [a0, a1, a2, a3, a4, a5, a6] (.float (FP.fmul x y) :: st) bc bs hp Q := Go_on (i := .fmul) rfl rfl
theorem sX3_wave_86 : Go kX3_wave 86 [a0, a1, a2, a3, a4, a5, a6] st bc bs hp Q ↔ Go kX3_wave 99 [a0, a1, a2, a3, a4, a5, a6] st bc bs hp Q := Go_next (i := .goto 13) rfl rfl
theorem sX3_wave_89 {x : UInt32} : Go kX3_wave 89 [a0, a1, a2, a3, (.float x), a5, a6] st bc bs hp Q ↔ Go kX3_wave 91 [a0, a1, a2, a3, (.float x), a5, a6] (.float x :: st) bc bs hp Q := Go_next (i := .fload 4) rfl rfl
theorem sX3_wave_91 : Go kX3_wave 91 [a0, a1, a2, a3, a4, a5, a6] st bc bs hp Q ↔ Go kX3_wave 92 [a0, a1, a2, a3, a4, a5, a6] (.float FP.fconst2 :: st) bc bs hp Q := Go_next (i := .fconst 2) rfl rfl
theorem sX3_wave_92 {x : UInt32} : Go kX3_wave 92 [a0, a1, a2, a3, a4, (.float x), a6] st bc bs hp Q ↔ Go kX3_wave 94 [a0, a1, a2, a3, a4, (.float x), a6] (.float x :: st) bc bs hp Q := Go_next (i := .fload 5) rfl rfl
theorem sX3_wave_94 {x y : UInt32} : Go kX3_wave 94 [a0, a1, a2, a3, a4, a5, a6] (.float y :: .float x :: st) bc bs hp Q ↔ nn32 (FP.fmul x y) = true ∧ Go kX3_wave 95 [a0, a1, a2, a3, a4, a5, a6] (.float (FP.fmul x y) :: st) bc bs hp Q := Go_on (i := .fmul) rfl rfl
theorem sX3_wave_95 {x : UInt32} : Go kX3_wave 95 [a0, a1, a2, a3, a4, a5, (.float x)] st bc bs hp Q ↔ Go kX3_wave 97 [a0, a1, a2, a3, a4, a5, (.float x)] (.float x :: st) bc bs hp Q := Go_next (i := .fload 6) rfl rfl
theorem sX3_wave_97 {x y : UInt32} : Go kX3_wave 97 [a0, a1, a2, a3, a4, a5, a6] (.float y :: .float x :: st) bc bs hp Q ↔ nn32 (FP.fdiv x y) = true ∧ Go kX3_wave 98 [a0, a1, a2, a3, a4, a5, a6] (.float (FP.fdiv x y) :: st) bc bs hp Q := Go_on (i := .fdiv) rfl rfl
theorem sX3_wave_98 {x y : UInt32} : Go kX3_wave 98 [a0, a1, a2, a3, a4, a5, a6] (.float y :: .float x :: st) bc bs hp Q ↔ nn32 (FP.fmul x y) = true ∧ Go kX3_wave 99 [a0, a1, a2, a3, a4, a5, a6] (.float (FP.fmul x y) :: st) bc bs hp Q := Go_on (i := .fmul) rfl rfl
theorem sX3_wave_99 {x : UInt32} : Go kX3_wave 99 [a0, a1, a2, a3, a4, a5, a6] [.float x] bc bs hp Q ↔ Q (.inl (some (.float x))) hp := Go_ret (i := .freturn) rfl rfl
theorem sX3_wave_100 : Go kX3_wave 100 [a0, a1, a2, a3, a4, a5, a6] st bc bs hp Q ↔ Go kX3_wave 101 [a0, a1, a2, a3, a4, a5, a6] (.int 2 :: st) bc bs hp Q := Go_next (i := .iconst 2) rfl rfl
theorem sX3_wave_101 {x : Int32} : Go kX3_wave 101 [a0, a1, a2, (.int x), a4, a5, a6] st bc bs hp Q ↔ Go kX3_wave 102 [a0, a1, a2, (.int x), a4, a5, a6] (.int x :: st) bc bs hp Q := Go_next (i := .iload_n 3) rfl rfl
theorem sX3_wave_102 {x y : Int32} : Go kX3_wave 102 [a0, a1, a2, a3, a4, a5, a6] (.int y :: .int x :: st) bc bs hp Q ↔ Go kX3_wave 103 [a0, a1, a2, a3, a4, a5, a6] (.int (x * y) :: st) bc bs hp Q := Go_next (i := .imul) rfl rfl
theorem sX3_wave_103 {x : Nat} : Go kX3_wave 103 [(.ref x), a1, a2, a3, a4, a5, a6] st bc bs hp Q ↔ Go kX3_wave 104 [(.ref x), a1, a2, a3, a4, a5, a6] (.ref x :: st) bc bs hp Q := Go_next (i := .aload_n 0) rfl rfl
theorem sX3_wave_104 {x : Nat} : Go kX3_wave 104 [a0, a1, a2, a3, a4, a5, a6] (.ref x :: st) bc bs hp Q ↔ RdF hp x 3 4 (fun v => Go kX3_wave 107 [a0, a1, a2, a3, a4, a5, a6] (v :: st) bc bs hp Q) := Go_getf rfl rfl
theorem sX3_wave_107 {x y : Int32} : Go kX3_wave 107 [a0, a1, a2, a3, a4, a5, a6] (.int y :: .int x :: st) bc bs hp Q ↔ (y ≤ x → Go kX3_wave 115 [a0, a1, a2, a3, a4, a5, a6] st bc bs hp Q) ∧ (¬ y ≤ x → Go kX3_wave 110 [a0, a1, a2, a3, a4, a5, a6] st bc bs hp Q) := Go_ift (c := y ≤ x) (i := .if_icmp .ge 8) rfl rfl
theorem sX3_wave_110 {x : UInt32} : Go kX3_wave 110 [a0, a1, a2, a3, (.float x), a5, a6] st bc bs hp Q ↔ Go kX3_wave 112 [a0, a1, a2, a3, (.float x), a5, a6] (.float x :: st) bc bs hp Q := Go_next (i := .fload 4) rfl rfl
theorem sX3_wave_112 : Go kX3_wave 112 [a0, a1, a2, a3, a4, a5, a6] st bc bs hp Q ↔ Go kX3_wave 116 [a0, a1, a2, a3, a4, a5, a6] st bc bs hp Q := Go_next (i := .goto 4) rfl rfl
theorem sX3_wave_115 : Go kX3_wave 115 [a0, a1, a2, a3, a4, a5, a6] st bc bs hp Q ↔ Go kX3_wave 116 [a0, a1, a2, a3, a4, a5, a6] (.float FP.fconst0 :: st) bc bs hp Q := Go_next (i := .fconst 0) rfl rfl
theorem sX3_wave_116 {x : UInt32} : Go kX3_wave 116 [a0, a1, a2, a3, a4, a5, a6] [.float x] bc bs hp Q ↔ Q (.inl (some (.float x))) hp := Go_ret (i := .freturn) rfl rfl
theorem sX4_init_0 {x : Nat} : Go kX4_init 0 [(.ref x), a1] st bc bs hp Q ↔ Go kX4_init 1 [(.ref x), a1] (.ref x :: st) bc bs hp Q := Go_next (i := .aload_n 0) rfl rfl
theorem sX4_init_1 {x : Nat} : Go kX4_init 1 [a0, a1] (.ref x :: st) bc bs hp Q ↔ nsum st ≤ 8 ∧ Go kX4_init 4 [a0, a1] st bc bs hp Q := Go_on (i := .invokespecial 3) rfl rfl
theorem sX4_init_4 {x : Nat} : Go kX4_init 4 [(.ref x), a1] st bc bs hp Q ↔ Go kX4_init 5 [(.ref x), a1] (.ref x :: st) bc bs hp Q := Go_next (i := .aload_n 0) rfl rfl
theorem sX4_init_5 : Go kX4_init 5 [a0, a1] st bc bs hp Q ↔ Go kX4_init 7 [a0, a1] (.int 48 :: st) bc bs hp Q := Go_next (i := .bipush 48) rfl rfl
theorem sX4_init_7 : Go kX4_init 7 [a0, a1] (.int 48 :: st) bc bs hp Q ↔ (1 ≤ bc ∧ 48 ≤ bs) ∧ Go kX4_init 9 [a0, a1] (.ref (hp.1 + 1) :: st) (bc - 1) (bs - 48) (addHp hp (.inl (0, 48, .inl fun _ => 0))) Q := Go_newa (q := 48) (ty := .int) rfl rfl (by decide) (by decide) rfl rfl
theorem sX4_init_9 {x : Nat} {y : Nat} : Go kX4_init 9 [a0, a1] (.ref y :: .ref x :: st) bc bs hp Q ↔ WrF hp x 4 0 (.ref y) (fun hp => Go kX4_init 12 [a0, a1] st bc bs hp Q) := Go_puti rfl rfl (putOK_of rfl rfl rfl)
theorem sX4_init_12 : Go kX4_init 12 [a0, a1] st bc bs hp Q ↔ Go kX4_init 13 [a0, a1] (.int 0 :: st) bc bs hp Q := Go_next (i := .iconst 0) rfl rfl
theorem sX4_init_13 {x : Int32} (hj : a0.category = 1) : Go kX4_init 13 [a0, a1] (.int x :: st) bc bs hp Q ↔ Go kX4_init 14 [a0, (.int x)] st bc bs hp Q := Go_sto (i := .istore_n 1) (j := 1) (v := .int x) rfl rfl (Nat.le_of_ble_eq_true rfl) (decide_eq_true hj) rfl
theorem sX4_init_14 {x : Int32} : Go kX4_init 14 [a0, (.int x)] st bc bs hp Q ↔ Go kX4_init 15 [a0, (.int x)] (.int x :: st) bc bs hp Q := Go_next (i := .iload_n 1) rfl rfl
theorem sX4_init_15 : Go kX4_init 15 [a0, a1] st bc bs hp Q ↔ Go kX4_init 17 [a0, a1] (.int 48 :: st) bc bs hp Q := Go_next (i := .bipush 48) rfl rfl
theorem sX4_init_17 {x y : Int32} : Go kX4_init 17 [a0, a1] (.int y :: .int x :: st) bc bs hp Q ↔ (y ≤ x → Go kX4_init 33 [a0, a1] st bc bs hp Q) ∧ (¬ y ≤ x → Go kX4_init 20 [a0, a1] st bc bs hp Q) := Go_ift (c := y ≤ x) (i := .if_icmp .ge 16) rfl rfl
theorem sX4_init_20 {x : Nat} : Go kX4_init 20 [(.ref x), a1] st bc bs hp Q ↔ Go kX4_init 21 [(.ref x), a1] (.ref x :: st) bc bs hp Q := Go_next (i := .aload_n 0) rfl rfl
theorem sX4_init_21 {x : Nat} : Go kX4_init 21 [a0, a1] (.ref x :: st) bc bs hp Q ↔ RdF hp x 4 0 (fun v => Go kX4_init 24 [a0, a1] (v :: st) bc bs hp Q) := Go_getf rfl rfl
theorem sX4_init_24 {x : Int32} : Go kX4_init 24 [a0, (.int x)] st bc bs hp Q ↔ Go kX4_init 25 [a0, (.int x)] (.int x :: st) bc bs hp Q := Go_next (i := .iload_n 1) rfl rfl
theorem sX4_init_25 : Go kX4_init 25 [a0, a1] st bc bs hp Q ↔ Go kX4_init 26 [a0, a1] (.int (-1) :: st) bc bs hp Q := Go_next (i := .iconst (-1)) rfl rfl
theorem sX4_init_26 {x : Nat} {i : Int32} {y : Int32} : Go kX4_init 26 [a0, a1] (.int y :: .int i :: .ref x :: st) bc bs hp Q ↔ WrA hp x 0 i y (fun hp => Go kX4_init 27 [a0, a1] st bc bs hp Q) := Go_iast rfl
theorem sX4_init_27 {x : Int32} (hj : a0.category = 1) : Go kX4_init 27 [a0, (.int x)] st bc bs hp Q ↔ Go kX4_init 30 [a0, (.int (x + 1))] st bc bs hp Q := Go_sto (i := .iinc 1 1) (j := 1) (v := .int (x + 1)) rfl rfl (Nat.le_of_ble_eq_true rfl) (decide_eq_true hj) rfl
theorem sX4_init_30 : Go kX4_init 30 [a0, a1] st bc bs hp Q ↔ Go kX4_init 14 [a0, a1] st bc bs hp Q := Go_next (i := .goto (-16)) rfl rfl
theorem sX4_init_33 : Go kX4_init 33 [a0, a1] [] bc bs hp Q ↔ Q (.inl none) hp := Go_ret (i := .return_) rfl rfl
theorem sX4_has_0 {x : Nat} : Go kX4_has 0 [(.ref x), a1] st bc bs hp Q ↔ Go kX4_has 1 [(.ref x), a1] (.ref x :: st) bc bs hp Q := Go_next (i := .aload_n 0) rfl rfl
theorem sX4_has_1 {x : Nat} : Go kX4_has 1 [a0, a1] (.ref x :: st) bc bs hp Q ↔ RdF hp x 4 0 (fun v => Go kX4_has 4 [a0, a1] (v :: st) bc bs hp Q) := Go_getf rfl rfl
theorem sX4_has_4 {x : Int32} : Go kX4_has 4 [a0, (.int x)] st bc bs hp Q ↔ Go kX4_has 5 [a0, (.int x)] (.int x :: st) bc bs hp Q := Go_next (i := .iload_n 1) rfl rfl
theorem sX4_has_5 {x : Nat} {i : Int32} : Go kX4_has 5 [a0, a1] (.int i :: .ref x :: st) bc bs hp Q ↔ RdA hp x 0 i (fun v => Go kX4_has 6 [a0, a1] (.int v :: st) bc bs hp Q) := Go_iald rfl
theorem sX4_has_6 : Go kX4_has 6 [a0, a1] st bc bs hp Q ↔ Go kX4_has 7 [a0, a1] (.int (-1) :: st) bc bs hp Q := Go_next (i := .iconst (-1)) rfl rfl
theorem sX4_has_7 {x y : Int32} : Go kX4_has 7 [a0, a1] (.int y :: .int x :: st) bc bs hp Q ↔ (x = y → Go kX4_has 14 [a0, a1] st bc bs hp Q) ∧ (¬ x = y → Go kX4_has 10 [a0, a1] st bc bs hp Q) := Go_ift (c := x = y) (i := .if_icmp .eq 7) rfl rfl
theorem sX4_has_10 : Go kX4_has 10 [a0, a1] st bc bs hp Q ↔ Go kX4_has 11 [a0, a1] (.int 1 :: st) bc bs hp Q := Go_next (i := .iconst 1) rfl rfl
theorem sX4_has_11 : Go kX4_has 11 [a0, a1] st bc bs hp Q ↔ Go kX4_has 15 [a0, a1] st bc bs hp Q := Go_next (i := .goto 4) rfl rfl
theorem sX4_has_14 : Go kX4_has 14 [a0, a1] st bc bs hp Q ↔ Go kX4_has 15 [a0, a1] (.int 0 :: st) bc bs hp Q := Go_next (i := .iconst 0) rfl rfl
theorem sX4_has_15 {x : Int32} : Go kX4_has 15 [a0, a1] [.int x] bc bs hp Q ↔ outI kX4_has x = true ∧ Q (.inl (some (.int x))) hp := Go_retIf (i := .ireturn) rfl rfl
theorem sX4_put_0 {x : Nat} : Go kX4_put 0 [(.ref x), a1, a2] st bc bs hp Q ↔ Go kX4_put 1 [(.ref x), a1, a2] (.ref x :: st) bc bs hp Q := Go_next (i := .aload_n 0) rfl rfl
theorem sX4_put_1 {x : Nat} : Go kX4_put 1 [a0, a1, a2] (.ref x :: st) bc bs hp Q ↔ RdF hp x 4 0 (fun v => Go kX4_put 4 [a0, a1, a2] (v :: st) bc bs hp Q) := Go_getf rfl rfl
theorem sX4_put_4 {x : Int32} : Go kX4_put 4 [a0, (.int x), a2] st bc bs hp Q ↔ Go kX4_put 5 [a0, (.int x), a2] (.int x :: st) bc bs hp Q := Go_next (i := .iload_n 1) rfl rfl
theorem sX4_put_5 {x : Nat} {i : Int32} : Go kX4_put 5 [a0, a1, a2] (.int i :: .ref x :: st) bc bs hp Q ↔ RdA hp x 0 i (fun v => Go kX4_put 6 [a0, a1, a2] (.int v :: st) bc bs hp Q) := Go_iald rfl
theorem sX4_put_6 : Go kX4_put 6 [a0, a1, a2] st bc bs hp Q ↔ Go kX4_put 7 [a0, a1, a2] (.int (-1) :: st) bc bs hp Q := Go_next (i := .iconst (-1)) rfl rfl
theorem sX4_put_7 {x y : Int32} : Go kX4_put 7 [a0, a1, a2] (.int y :: .int x :: st) bc bs hp Q ↔ (¬ x = y → Go kX4_put 20 [a0, a1, a2] st bc bs hp Q) ∧ (x = y → Go kX4_put 10 [a0, a1, a2] st bc bs hp Q) := Go_ifn (c := x = y) (i := .if_icmp .ne 13) rfl rfl
theorem sX4_put_10 {x : Nat} : Go kX4_put 10 [(.ref x), a1, a2] st bc bs hp Q ↔ Go kX4_put 11 [(.ref x), a1, a2] (.ref x :: st) bc bs hp Q := Go_next (i := .aload_n 0) rfl rfl
theorem sX4_put_11 {x : Nat} : Go kX4_put 11 [a0, a1, a2] (.ref x :: st) bc bs hp Q ↔ Go kX4_put 12 [a0, a1, a2] (.ref x :: .ref x :: st) bc bs hp Q := Go_next (i := .dup) rfl rfl
theorem sX4_put_12 {x : Nat} : Go kX4_put 12 [a0, a1, a2] (.ref x :: st) bc bs hp Q ↔ RdF hp x 4 1 (fun v => Go kX4_put 15 [a0, a1, a2] (v :: st) bc bs hp Q) := Go_getf rfl rfl
theorem sX4_put_15 : Go kX4_put 15 [a0, a1, a2] st bc bs hp Q ↔ Go kX4_put 16 [a0, a1, a2] (.int 1 :: st) bc bs hp Q := Go_next (i := .iconst 1) rfl rfl
theorem sX4_put_16 {x y : Int32} : Go kX4_put 16 [a0, a1, a2] (.int y :: .int x :: st) bc bs hp Q ↔ Go kX4_put 17 [a0, a1, a2] (.int (x + y) :: st) bc bs hp Q := Go_next (i := .iadd) rfl rfl
theorem sX4_put_17 {x : Nat} {y : Int32} : Go kX4_put 17 [a0, a1, a2] (.int y :: .ref x :: st) bc bs hp Q ↔ WrF hp x 4 1 (.int y) (fun hp => Go kX4_put 20 [a0, a1, a2] st bc bs hp Q) := Go_puti rfl rfl (putOK_of rfl rfl rfl)
theorem sX4_put_20 {x : Nat} : Go kX4_put 20 [(.ref x), a1, a2] st bc bs hp Q ↔ Go kX4_put 21 [(.ref x), a1, a2] (.ref x :: st) bc bs hp Q := Go_next (i := .aload_n 0) rfl rfl
theorem sX4_put_21 {x : Nat} : Go kX4_put 21 [a0, a1, a2] (.ref x :: st) bc bs hp Q ↔ RdF hp x 4 0 (fun v => Go kX4_put 24 [a0, a1, a2] (v :: st) bc bs hp Q) := Go_getf rfl rfl
theorem sX4_put_24 {x : Int32} : Go kX4_put 24 [a0, (.int x), a2] st bc bs hp Q ↔ Go kX4_put 25 [a0, (.int x), a2] (.int x :: st) bc bs hp Q := Go_next (i := .iload_n 1) rfl rfl
theorem sX4_put_25 {x : Int32} : Go kX4_put 25 [a0, a1, (.int x)] st bc bs hp Q ↔ Go kX4_put 26 [a0, a1, (.int x)] (.int x :: st) bc bs hp Q := Go_next (i := .iload_n 2) rfl rfl
theorem sX4_put_26 {x : Nat} {i : Int32} {y : Int32} : Go kX4_put 26 [a0, a1, a2] (.int y :: .int i :: .ref x :: st) bc bs hp Q ↔ WrA hp x 0 i y (fun hp => Go kX4_put 27 [a0, a1, a2] st bc bs hp Q) := Go_iast rfl
theorem sX4_put_27 {x : Nat} : Go kX4_put 27 [(.ref x), a1, a2] st bc bs hp Q ↔ Go kX4_put 28 [(.ref x), a1, a2] (.ref x :: st) bc bs hp Q := Go_next (i := .aload_n 0) rfl rfl
theorem sX4_put_28 {x : Nat} : Go kX4_put 28 [a0, a1, a2] (.ref x :: st) bc bs hp Q ↔ RdF hp x 4 1 (fun v => Go kX4_put 31 [a0, a1, a2] (v :: st) bc bs hp Q) := Go_getf rfl rfl
theorem sX4_put_31 {x : Int32} : Go kX4_put 31 [a0, a1, a2] [.int x] bc bs hp Q ↔ Q (.inl (some (.int x))) hp := Go_ret (i := .ireturn) rfl rfl
theorem sX4_drop_0 {x : Nat} : Go kX4_drop 0 [(.ref x), a1] st bc bs hp Q ↔ Go kX4_drop 1 [(.ref x), a1] (.ref x :: st) bc bs hp Q := Go_next (i := .aload_n 0) rfl rfl
theorem sX4_drop_1 {x : Nat} : Go kX4_drop 1 [a0, a1] (.ref x :: st) bc bs hp Q ↔ RdF hp x 4 0 (fun v => Go kX4_drop 4 [a0, a1] (v :: st) bc bs hp Q) := Go_getf rfl rfl
theorem sX4_drop_4 {x : Int32} : Go kX4_drop 4 [a0, (.int x)] st bc bs hp Q ↔ Go kX4_drop 5 [a0, (.int x)] (.int x :: st) bc bs hp Q := Go_next (i := .iload_n 1) rfl rfl
theorem sX4_drop_5 {x : Nat} {i : Int32} : Go kX4_drop 5 [a0, a1] (.int i :: .ref x :: st) bc bs hp Q ↔ RdA hp x 0 i (fun v => Go kX4_drop 6 [a0, a1] (.int v :: st) bc bs hp Q) := Go_iald rfl
theorem sX4_drop_6 : Go kX4_drop 6 [a0, a1] st bc bs hp Q ↔ Go kX4_drop 7 [a0, a1] (.int (-1) :: st) bc bs hp Q := Go_next (i := .iconst (-1)) rfl rfl
theorem sX4_drop_7 {x y : Int32} : Go kX4_drop 7 [a0, a1] (.int y :: .int x :: st) bc bs hp Q ↔ (x = y → Go kX4_drop 20 [a0, a1] st bc bs hp Q) ∧ (¬ x = y → Go kX4_drop 10 [a0, a1] st bc bs hp Q) := Go_ift (c := x = y) (i := .if_icmp .eq 13) rfl rfl
theorem sX4_drop_10 {x : Nat} : Go kX4_drop 10 [(.ref x), a1] st bc bs hp Q ↔ Go kX4_drop 11 [(.ref x), a1] (.ref x :: st) bc bs hp Q := Go_next (i := .aload_n 0) rfl rfl
theorem sX4_drop_11 {x : Nat} : Go kX4_drop 11 [a0, a1] (.ref x :: st) bc bs hp Q ↔ Go kX4_drop 12 [a0, a1] (.ref x :: .ref x :: st) bc bs hp Q := Go_next (i := .dup) rfl rfl
theorem sX4_drop_12 {x : Nat} : Go kX4_drop 12 [a0, a1] (.ref x :: st) bc bs hp Q ↔ RdF hp x 4 1 (fun v => Go kX4_drop 15 [a0, a1] (v :: st) bc bs hp Q) := Go_getf rfl rfl
theorem sX4_drop_15 : Go kX4_drop 15 [a0, a1] st bc bs hp Q ↔ Go kX4_drop 16 [a0, a1] (.int 1 :: st) bc bs hp Q := Go_next (i := .iconst 1) rfl rfl
theorem sX4_drop_16 {x y : Int32} : Go kX4_drop 16 [a0, a1] (.int y :: .int x :: st) bc bs hp Q ↔ Go kX4_drop 17 [a0, a1] (.int (x - y) :: st) bc bs hp Q := Go_next (i := .isub) rfl rfl
theorem sX4_drop_17 {x : Nat} {y : Int32} : Go kX4_drop 17 [a0, a1] (.int y :: .ref x :: st) bc bs hp Q ↔ WrF hp x 4 1 (.int y) (fun hp => Go kX4_drop 20 [a0, a1] st bc bs hp Q) := Go_puti rfl rfl (putOK_of rfl rfl rfl)
theorem sX4_drop_20 {x : Nat} : Go kX4_drop 20 [(.ref x), a1] st bc bs hp Q ↔ Go kX4_drop 21 [(.ref x), a1] (.ref x :: st) bc bs hp Q := Go_next (i := .aload_n 0) rfl rfl
theorem sX4_drop_21 {x : Nat} : Go kX4_drop 21 [a0, a1] (.ref x :: st) bc bs hp Q ↔ RdF hp x 4 0 (fun v => Go kX4_drop 24 [a0, a1] (v :: st) bc bs hp Q) := Go_getf rfl rfl
theorem sX4_drop_24 {x : Int32} : Go kX4_drop 24 [a0, (.int x)] st bc bs hp Q ↔ Go kX4_drop 25 [a0, (.int x)] (.int x :: st) bc bs hp Q := Go_next (i := .iload_n 1) rfl rfl
theorem sX4_drop_25 : Go kX4_drop 25 [a0, a1] st bc bs hp Q ↔ Go kX4_drop 26 [a0, a1] (.int (-1) :: st) bc bs hp Q := Go_next (i := .iconst (-1)) rfl rfl
theorem sX4_drop_26 {x : Nat} {i : Int32} {y : Int32} : Go kX4_drop 26 [a0, a1] (.int y :: .int i :: .ref x :: st) bc bs hp Q ↔ WrA hp x 0 i y (fun hp => Go kX4_drop 27 [a0, a1] st bc bs hp Q) := Go_iast rfl
theorem sX4_drop_27 {x : Nat} : Go kX4_drop 27 [(.ref x), a1] st bc bs hp Q ↔ Go kX4_drop 28 [(.ref x), a1] (.ref x :: st) bc bs hp Q := Go_next (i := .aload_n 0) rfl rfl
theorem sX4_drop_28 {x : Nat} : Go kX4_drop 28 [a0, a1] (.ref x :: st) bc bs hp Q ↔ RdF hp x 4 1 (fun v => Go kX4_drop 31 [a0, a1] (v :: st) bc bs hp Q) := Go_getf rfl rfl
theorem sX4_drop_31 {x : Int32} : Go kX4_drop 31 [a0, a1] [.int x] bc bs hp Q ↔ Q (.inl (some (.int x))) hp := Go_ret (i := .ireturn) rfl rfl
theorem sX4_empty_0 {x : Nat} : Go kX4_empty 0 [(.ref x), a1, a2] st bc bs hp Q ↔ Go kX4_empty 1 [(.ref x), a1, a2] (.ref x :: st) bc bs hp Q := Go_next (i := .aload_n 0) rfl rfl
theorem sX4_empty_1 {x : Nat} : Go kX4_empty 1 [a0, a1, a2] (.ref x :: st) bc bs hp Q ↔ RdF hp x 4 1 (fun v => Go kX4_empty 4 [a0, a1, a2] (v :: st) bc bs hp Q) := Go_getf rfl rfl
theorem sX4_empty_4 {x : Int32} (hj : a0.category = 1) : Go kX4_empty 4 [a0, a1, a2] (.int x :: st) bc bs hp Q ↔ Go kX4_empty 5 [a0, (.int x), a2] st bc bs hp Q := Go_sto (i := .istore_n 1) (j := 1) (v := .int x) rfl rfl (Nat.le_of_ble_eq_true rfl) (decide_eq_true hj) rfl
theorem sX4_empty_5 : Go kX4_empty 5 [a0, a1, a2] st bc bs hp Q ↔ Go kX4_empty 6 [a0, a1, a2] (.int 0 :: st) bc bs hp Q := Go_next (i := .iconst 0) rfl rfl
theorem sX4_empty_6 {x : Int32} (hj : a1.category = 1) : Go kX4_empty 6 [a0, a1, a2] (.int x :: st) bc bs hp Q ↔ Go kX4_empty 7 [a0, a1, (.int x)] st bc bs hp Q := Go_sto (i := .istore_n 2) (j := 2) (v := .int x) rfl rfl (Nat.le_of_ble_eq_true rfl) (decide_eq_true hj) rfl
theorem sX4_empty_7 {x : Int32} : Go kX4_empty 7 [a0, a1, (.int x)] st bc bs hp Q ↔ Go kX4_empty 8 [a0, a1, (.int x)] (.int x :: st) bc bs hp Q := Go_next (i := .iload_n 2) rfl rfl
theorem sX4_empty_8 : Go kX4_empty 8 [a0, a1, a2] st bc bs hp Q ↔ Go kX4_empty 10 [a0, a1, a2] (.int 48 :: st) bc bs hp Q := Go_next (i := .bipush 48) rfl rfl
theorem sX4_empty_10 {x y : Int32} : Go kX4_empty 10 [a0, a1, a2] (.int y :: .int x :: st) bc bs hp Q ↔ (y ≤ x → Go kX4_empty 26 [a0, a1, a2] st bc bs hp Q) ∧ (¬ y ≤ x → Go kX4_empty 13 [a0, a1, a2] st bc bs hp Q) := Go_ift (c := y ≤ x) (i := .if_icmp .ge 16) rfl rfl
theorem sX4_empty_13 {x : Nat} : Go kX4_empty 13 [(.ref x), a1, a2] st bc bs hp Q ↔ Go kX4_empty 14 [(.ref x), a1, a2] (.ref x :: st) bc bs hp Q := Go_next (i := .aload_n 0) rfl rfl
theorem sX4_empty_14 {x : Nat} : Go kX4_empty 14 [a0, a1, a2] (.ref x :: st) bc bs hp Q ↔ RdF hp x 4 0 (fun v => Go kX4_empty 17 [a0, a1, a2] (v :: st) bc bs hp Q) := Go_getf rfl rfl
theorem sX4_empty_17 {x : Int32} : Go kX4_empty 17 [a0, a1, (.int x)] st bc bs hp Q ↔ Go kX4_empty 18 [a0, a1, (.int x)] (.int x :: st) bc bs hp Q := Go_next (i := .iload_n 2) rfl rfl
theorem sX4_empty_18 : Go kX4_empty 18 [a0, a1, a2] st bc bs hp Q ↔ Go kX4_empty 19 [a0, a1, a2] (.int (-1) :: st) bc bs hp Q := Go_next (i := .iconst (-1)) rfl rfl
theorem sX4_empty_19 {x : Nat} {i : Int32} {y : Int32} : Go kX4_empty 19 [a0, a1, a2] (.int y :: .int i :: .ref x :: st) bc bs hp Q ↔ WrA hp x 0 i y (fun hp => Go kX4_empty 20 [a0, a1, a2] st bc bs hp Q) := Go_iast rfl
theorem sX4_empty_20 {x : Int32} (hj : a1.category = 1) : Go kX4_empty 20 [a0, a1, (.int x)] st bc bs hp Q ↔ Go kX4_empty 23 [a0, a1, (.int (x + 1))] st bc bs hp Q := Go_sto (i := .iinc 2 1) (j := 2) (v := .int (x + 1)) rfl rfl (Nat.le_of_ble_eq_true rfl) (decide_eq_true hj) rfl
theorem sX4_empty_23 : Go kX4_empty 23 [a0, a1, a2] st bc bs hp Q ↔ Go kX4_empty 7 [a0, a1, a2] st bc bs hp Q := Go_next (i := .goto (-16)) rfl rfl
theorem sX4_empty_26 {x : Nat} : Go kX4_empty 26 [(.ref x), a1, a2] st bc bs hp Q ↔ Go kX4_empty 27 [(.ref x), a1, a2] (.ref x :: st) bc bs hp Q := Go_next (i := .aload_n 0) rfl rfl
theorem sX4_empty_27 : Go kX4_empty 27 [a0, a1, a2] st bc bs hp Q ↔ Go kX4_empty 28 [a0, a1, a2] (.int 0 :: st) bc bs hp Q := Go_next (i := .iconst 0) rfl rfl
theorem sX4_empty_28 {x : Nat} {y : Int32} : Go kX4_empty 28 [a0, a1, a2] (.int y :: .ref x :: st) bc bs hp Q ↔ WrF hp x 4 1 (.int y) (fun hp => Go kX4_empty 31 [a0, a1, a2] st bc bs hp Q) := Go_puti rfl rfl (putOK_of rfl rfl rfl)
theorem sX4_empty_31 {x : Int32} : Go kX4_empty 31 [a0, (.int x), a2] st bc bs hp Q ↔ Go kX4_empty 32 [a0, (.int x), a2] (.int x :: st) bc bs hp Q := Go_next (i := .iload_n 1) rfl rfl
theorem sX4_empty_32 {x : Int32} : Go kX4_empty 32 [a0, a1, a2] [.int x] bc bs hp Q ↔ Q (.inl (some (.int x))) hp := Go_ret (i := .ireturn) rfl rfl
theorem sX4_copy_0 {x : Nat} : Go kX4_copy 0 [a0, (.ref x)] st bc bs hp Q ↔ Go kX4_copy 1 [a0, (.ref x)] (.ref x :: st) bc bs hp Q := Go_next (i := .aload_n 1) rfl rfl
theorem sX4_copy_1 {x : Nat} : Go kX4_copy 1 [a0, a1] (.ref x :: st) bc bs hp Q ↔ RdF hp x 4 0 (fun v => Go kX4_copy 4 [a0, a1] (v :: st) bc bs hp Q) := Go_getf rfl rfl
theorem sX4_copy_4 : Go kX4_copy 4 [a0, a1] st bc bs hp Q ↔ Go kX4_copy 5 [a0, a1] (.int 0 :: st) bc bs hp Q := Go_next (i := .iconst 0) rfl rfl
theorem sX4_copy_5 {x : Nat} : Go kX4_copy 5 [(.ref x), a1] st bc bs hp Q ↔ Go kX4_copy 6 [(.ref x), a1] (.ref x :: st) bc bs hp Q := Go_next (i := .aload_n 0) rfl rfl
theorem sX4_copy_6 {x : Nat} : Go kX4_copy 6 [a0, a1] (.ref x :: st) bc bs hp Q ↔ RdF hp x 4 0 (fun v => Go kX4_copy 9 [a0, a1] (v :: st) bc bs hp Q) := Go_getf rfl rfl
theorem sX4_copy_9 : Go kX4_copy 9 [a0, a1] st bc bs hp Q ↔ Go kX4_copy 10 [a0, a1] (.int 0 :: st) bc bs hp Q := Go_next (i := .iconst 0) rfl rfl
theorem sX4_copy_10 : Go kX4_copy 10 [a0, a1] st bc bs hp Q ↔ Go kX4_copy 12 [a0, a1] (.int 48 :: st) bc bs hp Q := Go_next (i := .bipush 48) rfl rfl
theorem sX4_copy_12 {a b : Nat} {x y z : Int32} : Go kX4_copy 12 [a0, a1] (.int z :: .int y :: .ref b :: .int x :: .ref a :: st) bc bs hp Q ↔ nsum st ≤ 8 ∧ Cpy hp a b x y z (fun hp => Go kX4_copy 15 [a0, a1] st bc bs hp Q) := Go_cpy rfl rfl
theorem sX4_copy_15 {x : Nat} : Go kX4_copy 15 [(.ref x), a1] st bc bs hp Q ↔ Go kX4_copy 16 [(.ref x), a1] (.ref x :: st) bc bs hp Q := Go_next (i := .aload_n 0) rfl rfl
theorem sX4_copy_16 {x : Nat} : Go kX4_copy 16 [a0, (.ref x)] st bc bs hp Q ↔ Go kX4_copy 17 [a0, (.ref x)] (.ref x :: st) bc bs hp Q := Go_next (i := .aload_n 1) rfl rfl
theorem sX4_copy_17 {x : Nat} : Go kX4_copy 17 [a0, a1] (.ref x :: st) bc bs hp Q ↔ RdF hp x 4 1 (fun v => Go kX4_copy 20 [a0, a1] (v :: st) bc bs hp Q) := Go_getf rfl rfl
theorem sX4_copy_20 {x : Nat} {y : Int32} : Go kX4_copy 20 [a0, a1] (.int y :: .ref x :: st) bc bs hp Q ↔ WrF hp x 4 1 (.int y) (fun hp => Go kX4_copy 23 [a0, a1] st bc bs hp Q) := Go_puti rfl rfl (putOK_of rfl rfl rfl)
theorem sX4_copy_23 : Go kX4_copy 23 [a0, a1] [] bc bs hp Q ↔ Q (.inl none) hp := Go_ret (i := .return_) rfl rfl
theorem sX5_init_0 {x : Nat} : Go kX5_init 0 [(.ref x)] st bc bs hp Q ↔ Go kX5_init 1 [(.ref x)] (.ref x :: st) bc bs hp Q := Go_next (i := .aload_n 0) rfl rfl
theorem sX5_init_1 {x : Nat} : Go kX5_init 1 [a0] (.ref x :: st) bc bs hp Q ↔ nsum st ≤ 8 ∧ Go kX5_init 4 [a0] st bc bs hp Q := Go_on (i := .invokespecial 3) rfl rfl
theorem sX5_init_4 {x : Nat} : Go kX5_init 4 [(.ref x)] st bc bs hp Q ↔ Go kX5_init 5 [(.ref x)] (.ref x :: st) bc bs hp Q := Go_next (i := .aload_n 0) rfl rfl
theorem sX5_init_5 : Go kX5_init 5 [a0] st bc bs hp Q ↔ Go kX5_init 7 [a0] (.int 12 :: st) bc bs hp Q := Go_next (i := .bipush 12) rfl rfl
theorem sX5_init_7 : Go kX5_init 7 [a0] (.int 12 :: st) bc bs hp Q ↔ (1 ≤ bc ∧ 12 ≤ bs) ∧ Go kX5_init 9 [a0] (.ref (hp.1 + 1) :: st) (bc - 1) (bs - 12) (addHp hp (.inl (0, 12, .inl fun _ => 0))) Q := Go_newa (q := 12) (ty := .int) rfl rfl (by decide) (by decide) rfl rfl
theorem sX5_init_9 {x : Nat} {y : Nat} : Go kX5_init 9 [a0] (.ref y :: .ref x :: st) bc bs hp Q ↔ WrF hp x 5 0 (.ref y) (fun hp => Go kX5_init 12 [a0] st bc bs hp Q) := Go_puti rfl rfl (putOK_of rfl rfl rfl)
theorem sX5_init_12 : Go kX5_init 12 [a0] [] bc bs hp Q ↔ Q (.inl none) hp := Go_ret (i := .return_) rfl rfl
theorem sX5_placeOf_0 : Go kX5_placeOf 0 [a0, a1, a2] st bc bs hp Q ↔ Go kX5_placeOf 1 [a0, a1, a2] (.int 0 :: st) bc bs hp Q := Go_next (i := .iconst 0) rfl rfl
theorem sX5_placeOf_1 {x : Int32} (hj : a1.category = 1) : Go kX5_placeOf 1 [a0, a1, a2] (.int x :: st) bc bs hp Q ↔ Go kX5_placeOf 2 [a0, a1, (.int x)] st bc bs hp Q := Go_sto (i := .istore_n 2) (j := 2) (v := .int x) rfl rfl (Nat.le_of_ble_eq_true rfl) (decide_eq_true hj) rfl
theorem sX5_placeOf_2 {x : Int32} : Go kX5_placeOf 2 [a0, a1, (.int x)] st bc bs hp Q ↔ Go kX5_placeOf 3 [a0, a1, (.int x)] (.int x :: st) bc bs hp Q := Go_next (i := .iload_n 2) rfl rfl
theorem sX5_placeOf_3 {x : Nat} : Go kX5_placeOf 3 [(.ref x), a1, a2] st bc bs hp Q ↔ Go kX5_placeOf 4 [(.ref x), a1, a2] (.ref x :: st) bc bs hp Q := Go_next (i := .aload_n 0) rfl rfl
theorem sX5_placeOf_4 {x : Nat} : Go kX5_placeOf 4 [a0, a1, a2] (.ref x :: st) bc bs hp Q ↔ RdF hp x 5 1 (fun v => Go kX5_placeOf 7 [a0, a1, a2] (v :: st) bc bs hp Q) := Go_getf rfl rfl
theorem sX5_placeOf_7 {x y : Int32} : Go kX5_placeOf 7 [a0, a1, a2] (.int y :: .int x :: st) bc bs hp Q ↔ (y ≤ x → Go kX5_placeOf 28 [a0, a1, a2] st bc bs hp Q) ∧ (¬ y ≤ x → Go kX5_placeOf 10 [a0, a1, a2] st bc bs hp Q) := Go_ift (c := y ≤ x) (i := .if_icmp .ge 21) rfl rfl
theorem sX5_placeOf_10 {x : Nat} : Go kX5_placeOf 10 [(.ref x), a1, a2] st bc bs hp Q ↔ Go kX5_placeOf 11 [(.ref x), a1, a2] (.ref x :: st) bc bs hp Q := Go_next (i := .aload_n 0) rfl rfl
theorem sX5_placeOf_11 {x : Nat} : Go kX5_placeOf 11 [a0, a1, a2] (.ref x :: st) bc bs hp Q ↔ RdF hp x 5 0 (fun v => Go kX5_placeOf 14 [a0, a1, a2] (v :: st) bc bs hp Q) := Go_getf rfl rfl
theorem sX5_placeOf_14 {x : Int32} : Go kX5_placeOf 14 [a0, a1, (.int x)] st bc bs hp Q ↔ Go kX5_placeOf 15 [a0, a1, (.int x)] (.int x :: st) bc bs hp Q := Go_next (i := .iload_n 2) rfl rfl
theorem sX5_placeOf_15 {x : Nat} {i : Int32} : Go kX5_placeOf 15 [a0, a1, a2] (.int i :: .ref x :: st) bc bs hp Q ↔ RdA hp x 0 i (fun v => Go kX5_placeOf 16 [a0, a1, a2] (.int v :: st) bc bs hp Q) := Go_iald rfl
theorem sX5_placeOf_16 {x : Int32} : Go kX5_placeOf 16 [a0, (.int x), a2] st bc bs hp Q ↔ Go kX5_placeOf 17 [a0, (.int x), a2] (.int x :: st) bc bs hp Q := Go_next (i := .iload_n 1) rfl rfl
theorem sX5_placeOf_17 {x y : Int32} : Go kX5_placeOf 17 [a0, a1, a2] (.int y :: .int x :: st) bc bs hp Q ↔ (¬ x = y → Go kX5_placeOf 22 [a0, a1, a2] st bc bs hp Q) ∧ (x = y → Go kX5_placeOf 20 [a0, a1, a2] st bc bs hp Q) := Go_ifn (c := x = y) (i := .if_icmp .ne 5) rfl rfl
theorem sX5_placeOf_20 {x : Int32} : Go kX5_placeOf 20 [a0, a1, (.int x)] st bc bs hp Q ↔ Go kX5_placeOf 21 [a0, a1, (.int x)] (.int x :: st) bc bs hp Q := Go_next (i := .iload_n 2) rfl rfl
theorem sX5_placeOf_21 {x : Int32} : Go kX5_placeOf 21 [a0, a1, a2] [.int x] bc bs hp Q ↔ Q (.inl (some (.int x))) hp := Go_ret (i := .ireturn) rfl rfl
theorem sX5_placeOf_22 {x : Int32} (hj : a1.category = 1) : Go kX5_placeOf 22 [a0, a1, (.int x)] st bc bs hp Q ↔ Go kX5_placeOf 25 [a0, a1, (.int (x + 1))] st bc bs hp Q := Go_sto (i := .iinc 2 1) (j := 2) (v := .int (x + 1)) rfl rfl (Nat.le_of_ble_eq_true rfl) (decide_eq_true hj) rfl
theorem sX5_placeOf_25 : Go kX5_placeOf 25 [a0, a1, a2] st bc bs hp Q ↔ Go kX5_placeOf 2 [a0, a1, a2] st bc bs hp Q := Go_next (i := .goto (-23)) rfl rfl
theorem sX5_placeOf_28 : Go kX5_placeOf 28 [a0, a1, a2] st bc bs hp Q ↔ Go kX5_placeOf 29 [a0, a1, a2] (.int (-1) :: st) bc bs hp Q := Go_next (i := .iconst (-1)) rfl rfl
theorem sX5_placeOf_29 {x : Int32} : Go kX5_placeOf 29 [a0, a1, a2] [.int x] bc bs hp Q ↔ Q (.inl (some (.int x))) hp := Go_ret (i := .ireturn) rfl rfl
theorem sX5_join_0 {x : Nat} : Go kX5_join 0 [(.ref x), a1] st bc bs hp Q ↔ Go kX5_join 1 [(.ref x), a1] (.ref x :: st) bc bs hp Q := Go_next (i := .aload_n 0) rfl rfl
theorem sX5_join_1 {x : Nat} : Go kX5_join 1 [a0, a1] (.ref x :: st) bc bs hp Q ↔ RdF hp x 5 0 (fun v => Go kX5_join 4 [a0, a1] (v :: st) bc bs hp Q) := Go_getf rfl rfl
theorem sX5_join_4 {x : Nat} : Go kX5_join 4 [(.ref x), a1] st bc bs hp Q ↔ Go kX5_join 5 [(.ref x), a1] (.ref x :: st) bc bs hp Q := Go_next (i := .aload_n 0) rfl rfl
theorem sX5_join_5 {x : Nat} : Go kX5_join 5 [a0, a1] (.ref x :: st) bc bs hp Q ↔ RdF hp x 5 1 (fun v => Go kX5_join 8 [a0, a1] (v :: st) bc bs hp Q) := Go_getf rfl rfl
theorem sX5_join_8 {x : Int32} : Go kX5_join 8 [a0, (.int x)] st bc bs hp Q ↔ Go kX5_join 9 [a0, (.int x)] (.int x :: st) bc bs hp Q := Go_next (i := .iload_n 1) rfl rfl
theorem sX5_join_9 {x : Nat} {i : Int32} {y : Int32} : Go kX5_join 9 [a0, a1] (.int y :: .int i :: .ref x :: st) bc bs hp Q ↔ WrA hp x 0 i y (fun hp => Go kX5_join 10 [a0, a1] st bc bs hp Q) := Go_iast rfl
theorem sX5_join_10 {x : Nat} : Go kX5_join 10 [(.ref x), a1] st bc bs hp Q ↔ Go kX5_join 11 [(.ref x), a1] (.ref x :: st) bc bs hp Q := Go_next (i := .aload_n 0) rfl rfl
theorem sX5_join_11 {x : Nat} : Go kX5_join 11 [a0, a1] (.ref x :: st) bc bs hp Q ↔ Go kX5_join 12 [a0, a1] (.ref x :: .ref x :: st) bc bs hp Q := Go_next (i := .dup) rfl rfl
theorem sX5_join_12 {x : Nat} : Go kX5_join 12 [a0, a1] (.ref x :: st) bc bs hp Q ↔ RdF hp x 5 1 (fun v => Go kX5_join 15 [a0, a1] (v :: st) bc bs hp Q) := Go_getf rfl rfl
theorem sX5_join_15 : Go kX5_join 15 [a0, a1] st bc bs hp Q ↔ Go kX5_join 16 [a0, a1] (.int 1 :: st) bc bs hp Q := Go_next (i := .iconst 1) rfl rfl
theorem sX5_join_16 {x y : Int32} : Go kX5_join 16 [a0, a1] (.int y :: .int x :: st) bc bs hp Q ↔ Go kX5_join 17 [a0, a1] (.int (x + y) :: st) bc bs hp Q := Go_next (i := .iadd) rfl rfl
theorem sX5_join_17 {x : Nat} {y : Int32} : Go kX5_join 17 [a0, a1] (.int y :: .ref x :: st) bc bs hp Q ↔ WrF hp x 5 1 (.int y) (fun hp => Go kX5_join 20 [a0, a1] st bc bs hp Q) := Go_puti rfl rfl (putOK_of rfl rfl rfl)
theorem sX5_join_20 {x : Nat} : Go kX5_join 20 [(.ref x), a1] st bc bs hp Q ↔ Go kX5_join 21 [(.ref x), a1] (.ref x :: st) bc bs hp Q := Go_next (i := .aload_n 0) rfl rfl
theorem sX5_join_21 {x : Nat} : Go kX5_join 21 [a0, a1] (.ref x :: st) bc bs hp Q ↔ RdF hp x 5 1 (fun v => Go kX5_join 24 [a0, a1] (v :: st) bc bs hp Q) := Go_getf rfl rfl
theorem sX5_join_24 {x : Int32} : Go kX5_join 24 [a0, a1] [.int x] bc bs hp Q ↔ Q (.inl (some (.int x))) hp := Go_ret (i := .ireturn) rfl rfl
theorem sX6_init_0 {x : Nat} : Go kX6_init 0 [(.ref x)] st bc bs hp Q ↔ Go kX6_init 1 [(.ref x)] (.ref x :: st) bc bs hp Q := Go_next (i := .aload_n 0) rfl rfl
theorem sX6_init_1 {x : Nat} : Go kX6_init 1 [a0] (.ref x :: st) bc bs hp Q ↔ nsum st ≤ 8 ∧ Go kX6_init 4 [a0] st bc bs hp Q := Go_on (i := .invokespecial 3) rfl rfl
theorem sX6_init_4 {x : Nat} : Go kX6_init 4 [(.ref x)] st bc bs hp Q ↔ Go kX6_init 5 [(.ref x)] (.ref x :: st) bc bs hp Q := Go_next (i := .aload_n 0) rfl rfl
theorem sX6_init_5 : Go kX6_init 5 [a0] st bc bs hp Q ↔ Go kX6_init 7 [a0] (.int 8 :: st) bc bs hp Q := Go_next (i := .bipush 8) rfl rfl
theorem sX6_init_7 : Go kX6_init 7 [a0] (.int 8 :: st) bc bs hp Q ↔ (1 ≤ bc ∧ 8 ≤ bs) ∧ Go kX6_init 9 [a0] (.ref (hp.1 + 1) :: st) (bc - 1) (bs - 8) (addHp hp (.inl (0, 8, .inl fun _ => 0))) Q := Go_newa (q := 8) (ty := .int) rfl rfl (by decide) (by decide) rfl rfl
theorem sX6_init_9 {x : Nat} {y : Nat} : Go kX6_init 9 [a0] (.ref y :: .ref x :: st) bc bs hp Q ↔ WrF hp x 6 0 (.ref y) (fun hp => Go kX6_init 12 [a0] st bc bs hp Q) := Go_puti rfl rfl (putOK_of rfl rfl rfl)
theorem sX6_init_12 {x : Nat} : Go kX6_init 12 [(.ref x)] st bc bs hp Q ↔ Go kX6_init 13 [(.ref x)] (.ref x :: st) bc bs hp Q := Go_next (i := .aload_n 0) rfl rfl
theorem sX6_init_13 : Go kX6_init 13 [a0] st bc bs hp Q ↔ Go kX6_init 15 [a0] (.int 8 :: st) bc bs hp Q := Go_next (i := .bipush 8) rfl rfl
theorem sX6_init_15 : Go kX6_init 15 [a0] (.int 8 :: st) bc bs hp Q ↔ (1 ≤ bc ∧ 8 ≤ bs) ∧ Go kX6_init 17 [a0] (.ref (hp.1 + 1) :: st) (bc - 1) (bs - 8) (addHp hp (.inl (0, 8, .inl fun _ => 0))) Q := Go_newa (q := 8) (ty := .int) rfl rfl (by decide) (by decide) rfl rfl
theorem sX6_init_17 {x : Nat} {y : Nat} : Go kX6_init 17 [a0] (.ref y :: .ref x :: st) bc bs hp Q ↔ WrF hp x 6 1 (.ref y) (fun hp => Go kX6_init 20 [a0] st bc bs hp Q) := Go_puti rfl rfl (putOK_of rfl rfl rfl)
theorem sX6_init_20 : Go kX6_init 20 [a0] [] bc bs hp Q ↔ Q (.inl none) hp := Go_ret (i := .return_) rfl rfl
theorem sX6_mix_0 {x : Nat} : Go kX6_mix 0 [(.ref x), a1, a2] st bc bs hp Q ↔ Go kX6_mix 1 [(.ref x), a1, a2] (.ref x :: st) bc bs hp Q := Go_next (i := .aload_n 0) rfl rfl
theorem sX6_mix_1 {x : Nat} : Go kX6_mix 1 [a0, a1, a2] (.ref x :: st) bc bs hp Q ↔ RdF hp x 6 0 (fun v => Go kX6_mix 4 [a0, a1, a2] (v :: st) bc bs hp Q) := Go_getf rfl rfl
theorem sX6_mix_4 {x : Nat} : Go kX6_mix 4 [(.ref x), a1, a2] st bc bs hp Q ↔ Go kX6_mix 5 [(.ref x), a1, a2] (.ref x :: st) bc bs hp Q := Go_next (i := .aload_n 0) rfl rfl
theorem sX6_mix_5 {x : Nat} : Go kX6_mix 5 [a0, a1, a2] (.ref x :: st) bc bs hp Q ↔ RdF hp x 6 2 (fun v => Go kX6_mix 8 [a0, a1, a2] (v :: st) bc bs hp Q) := Go_getf rfl rfl
theorem sX6_mix_8 {x : Int32} : Go kX6_mix 8 [a0, (.int x), a2] st bc bs hp Q ↔ Go kX6_mix 9 [a0, (.int x), a2] (.int x :: st) bc bs hp Q := Go_next (i := .iload_n 1) rfl rfl
theorem sX6_mix_9 {x : Nat} {i : Int32} {y : Int32} : Go kX6_mix 9 [a0, a1, a2] (.int y :: .int i :: .ref x :: st) bc bs hp Q ↔ WrA hp x 0 i y (fun hp => Go kX6_mix 10 [a0, a1, a2] st bc bs hp Q) := Go_iast rfl
theorem sX6_mix_10 {x : Nat} : Go kX6_mix 10 [(.ref x), a1, a2] st bc bs hp Q ↔ Go kX6_mix 11 [(.ref x), a1, a2] (.ref x :: st) bc bs hp Q := Go_next (i := .aload_n 0) rfl rfl
theorem sX6_mix_11 {x : Nat} : Go kX6_mix 11 [a0, a1, a2] (.ref x :: st) bc bs hp Q ↔ RdF hp x 6 1 (fun v => Go kX6_mix 14 [a0, a1, a2] (v :: st) bc bs hp Q) := Go_getf rfl rfl
theorem sX6_mix_14 {x : Nat} : Go kX6_mix 14 [(.ref x), a1, a2] st bc bs hp Q ↔ Go kX6_mix 15 [(.ref x), a1, a2] (.ref x :: st) bc bs hp Q := Go_next (i := .aload_n 0) rfl rfl
theorem sX6_mix_15 {x : Nat} : Go kX6_mix 15 [a0, a1, a2] (.ref x :: st) bc bs hp Q ↔ RdF hp x 6 2 (fun v => Go kX6_mix 18 [a0, a1, a2] (v :: st) bc bs hp Q) := Go_getf rfl rfl
theorem sX6_mix_18 {x : Int32} : Go kX6_mix 18 [a0, a1, (.int x)] st bc bs hp Q ↔ Go kX6_mix 19 [a0, a1, (.int x)] (.int x :: st) bc bs hp Q := Go_next (i := .iload_n 2) rfl rfl
theorem sX6_mix_19 {x : Nat} {i : Int32} {y : Int32} : Go kX6_mix 19 [a0, a1, a2] (.int y :: .int i :: .ref x :: st) bc bs hp Q ↔ WrA hp x 0 i y (fun hp => Go kX6_mix 20 [a0, a1, a2] st bc bs hp Q) := Go_iast rfl
theorem sX6_mix_20 {x : Nat} : Go kX6_mix 20 [(.ref x), a1, a2] st bc bs hp Q ↔ Go kX6_mix 21 [(.ref x), a1, a2] (.ref x :: st) bc bs hp Q := Go_next (i := .aload_n 0) rfl rfl
theorem sX6_mix_21 {x : Nat} : Go kX6_mix 21 [a0, a1, a2] (.ref x :: st) bc bs hp Q ↔ Go kX6_mix 22 [a0, a1, a2] (.ref x :: .ref x :: st) bc bs hp Q := Go_next (i := .dup) rfl rfl
theorem sX6_mix_22 {x : Nat} : Go kX6_mix 22 [a0, a1, a2] (.ref x :: st) bc bs hp Q ↔ RdF hp x 6 2 (fun v => Go kX6_mix 25 [a0, a1, a2] (v :: st) bc bs hp Q) := Go_getf rfl rfl
theorem sX6_mix_25 : Go kX6_mix 25 [a0, a1, a2] st bc bs hp Q ↔ Go kX6_mix 26 [a0, a1, a2] (.int 1 :: st) bc bs hp Q := Go_next (i := .iconst 1) rfl rfl
theorem sX6_mix_26 {x y : Int32} : Go kX6_mix 26 [a0, a1, a2] (.int y :: .int x :: st) bc bs hp Q ↔ Go kX6_mix 27 [a0, a1, a2] (.int (x + y) :: st) bc bs hp Q := Go_next (i := .iadd) rfl rfl
theorem sX6_mix_27 {x : Nat} {y : Int32} : Go kX6_mix 27 [a0, a1, a2] (.int y :: .ref x :: st) bc bs hp Q ↔ WrF hp x 6 2 (.int y) (fun hp => Go kX6_mix 30 [a0, a1, a2] st bc bs hp Q) := Go_puti rfl rfl (putOK_of rfl rfl rfl)
theorem sX6_mix_30 {x : Nat} : Go kX6_mix 30 [(.ref x), a1, a2] st bc bs hp Q ↔ Go kX6_mix 31 [(.ref x), a1, a2] (.ref x :: st) bc bs hp Q := Go_next (i := .aload_n 0) rfl rfl
theorem sX6_mix_31 {x : Nat} : Go kX6_mix 31 [a0, a1, a2] (.ref x :: st) bc bs hp Q ↔ RdF hp x 6 2 (fun v => Go kX6_mix 34 [a0, a1, a2] (v :: st) bc bs hp Q) := Go_getf rfl rfl
theorem sX6_mix_34 : Go kX6_mix 34 [a0, a1, a2] st bc bs hp Q ↔ Go kX6_mix 35 [a0, a1, a2] (.int 1 :: st) bc bs hp Q := Go_next (i := .iconst 1) rfl rfl
theorem sX6_mix_35 {x y : Int32} : Go kX6_mix 35 [a0, a1, a2] (.int y :: .int x :: st) bc bs hp Q ↔ Go kX6_mix 36 [a0, a1, a2] (.int (x - y) :: st) bc bs hp Q := Go_next (i := .isub) rfl rfl
theorem sX6_mix_36 {x : Int32} : Go kX6_mix 36 [a0, a1, a2] [.int x] bc bs hp Q ↔ Q (.inl (some (.int x))) hp := Go_ret (i := .ireturn) rfl rfl
theorem sX6_change_0 {x : Nat} : Go kX6_change 0 [(.ref x), a1, a2, a3] st bc bs hp Q ↔ Go kX6_change 1 [(.ref x), a1, a2, a3] (.ref x :: st) bc bs hp Q := Go_next (i := .aload_n 0) rfl rfl
theorem sX6_change_1 {x : Nat} : Go kX6_change 1 [a0, a1, a2, a3] (.ref x :: st) bc bs hp Q ↔ RdF hp x 6 1 (fun v => Go kX6_change 4 [a0, a1, a2, a3] (v :: st) bc bs hp Q) := Go_getf rfl rfl
theorem sX6_change_4 {x : Int32} : Go kX6_change 4 [a0, (.int x), a2, a3] st bc bs hp Q ↔ Go kX6_change 5 [a0, (.int x), a2, a3] (.int x :: st) bc bs hp Q := Go_next (i := .iload_n 1) rfl rfl
theorem sX6_change_5 {x : Nat} {i : Int32} : Go kX6_change 5 [a0, a1, a2, a3] (.int i :: .ref x :: st) bc bs hp Q ↔ RdA hp x 0 i (fun v => Go kX6_change 6 [a0, a1, a2, a3] (.int v :: st) bc bs hp Q) := Go_iald rfl
theorem sX6_change_6 {x : Int32} (hj : a2.category = 1) : Go kX6_change 6 [a0, a1, a2, a3] (.int x :: st) bc bs hp Q ↔ Go kX6_change 7 [a0, a1, a2, (.int x)] st bc bs hp Q := Go_sto (i := .istore_n 3) (j := 3) (v := .int x) rfl rfl (Nat.le_of_ble_eq_true rfl) (decide_eq_true hj) rfl
theorem sX6_change_7 {x : Nat} : Go kX6_change 7 [(.ref x), a1, a2, a3] st bc bs hp Q ↔ Go kX6_change 8 [(.ref x), a1, a2, a3] (.ref x :: st) bc bs hp Q := Go_next (i := .aload_n 0) rfl rfl
theorem sX6_change_8 {x : Nat} : Go kX6_change 8 [a0, a1, a2, a3] (.ref x :: st) bc bs hp Q ↔ RdF hp x 6 1 (fun v => Go kX6_change 11 [a0, a1, a2, a3] (v :: st) bc bs hp Q) := Go_getf rfl rfl
theorem sX6_change_11 {x : Int32} : Go kX6_change 11 [a0, (.int x), a2, a3] st bc bs hp Q ↔ Go kX6_change 12 [a0, (.int x), a2, a3] (.int x :: st) bc bs hp Q := Go_next (i := .iload_n 1) rfl rfl
theorem sX6_change_12 {x : Int32} : Go kX6_change 12 [a0, a1, (.int x), a3] st bc bs hp Q ↔ Go kX6_change 13 [a0, a1, (.int x), a3] (.int x :: st) bc bs hp Q := Go_next (i := .iload_n 2) rfl rfl
theorem sX6_change_13 {x : Nat} {i : Int32} {y : Int32} : Go kX6_change 13 [a0, a1, a2, a3] (.int y :: .int i :: .ref x :: st) bc bs hp Q ↔ WrA hp x 0 i y (fun hp => Go kX6_change 14 [a0, a1, a2, a3] st bc bs hp Q) := Go_iast rfl
theorem sX6_change_14 {x : Int32} : Go kX6_change 14 [a0, a1, a2, (.int x)] st bc bs hp Q ↔ Go kX6_change 15 [a0, a1, a2, (.int x)] (.int x :: st) bc bs hp Q := Go_next (i := .iload_n 3) rfl rfl
theorem sX6_change_15 {x : Int32} : Go kX6_change 15 [a0, a1, a2, a3] [.int x] bc bs hp Q ↔ Q (.inl (some (.int x))) hp := Go_ret (i := .ireturn) rfl rfl
theorem sX6_numberOf_0 {x : Int32} : Go kX6_numberOf 0 [a0, (.int x)] st bc bs hp Q ↔ Go kX6_numberOf 1 [a0, (.int x)] (.int x :: st) bc bs hp Q := Go_next (i := .iload_n 1) rfl rfl
theorem sX6_numberOf_1 : Go kX6_numberOf 1 [a0, a1] st bc bs hp Q ↔ Go kX6_numberOf 4 [a0, a1] (.int 256 :: st) bc bs hp Q := Go_next (i := .sipush 256) rfl rfl
theorem sX6_numberOf_4 {x y : Int32} : Go kX6_numberOf 4 [a0, a1] (.int y :: .int x :: st) bc bs hp Q ↔ (y ≤ x → Go kX6_numberOf 11 [a0, a1] st bc bs hp Q) ∧ (¬ y ≤ x → Go kX6_numberOf 7 [a0, a1] st bc bs hp Q) := Go_ift (c := y ≤ x) (i := .if_icmp .ge 7) rfl rfl
theorem sX6_numberOf_7 {x : Int32} : Go kX6_numberOf 7 [a0, (.int x)] st bc bs hp Q ↔ Go kX6_numberOf 8 [a0, (.int x)] (.int x :: st) bc bs hp Q := Go_next (i := .iload_n 1) rfl rfl
theorem sX6_numberOf_8 : Go kX6_numberOf 8 [a0, a1] st bc bs hp Q ↔ Go kX6_numberOf 21 [a0, a1] st bc bs hp Q := Go_next (i := .goto 13) rfl rfl
theorem sX6_numberOf_11 {x : Nat} : Go kX6_numberOf 11 [(.ref x), a1] st bc bs hp Q ↔ Go kX6_numberOf 12 [(.ref x), a1] (.ref x :: st) bc bs hp Q := Go_next (i := .aload_n 0) rfl rfl
theorem sX6_numberOf_12 {x : Nat} : Go kX6_numberOf 12 [a0, a1] (.ref x :: st) bc bs hp Q ↔ RdF hp x 6 1 (fun v => Go kX6_numberOf 15 [a0, a1] (v :: st) bc bs hp Q) := Go_getf rfl rfl
theorem sX6_numberOf_15 {x : Int32} : Go kX6_numberOf 15 [a0, (.int x)] st bc bs hp Q ↔ Go kX6_numberOf 16 [a0, (.int x)] (.int x :: st) bc bs hp Q := Go_next (i := .iload_n 1) rfl rfl
theorem sX6_numberOf_16 : Go kX6_numberOf 16 [a0, a1] st bc bs hp Q ↔ Go kX6_numberOf 19 [a0, a1] (.int 256 :: st) bc bs hp Q := Go_next (i := .sipush 256) rfl rfl
theorem sX6_numberOf_19 {x y : Int32} : Go kX6_numberOf 19 [a0, a1] (.int y :: .int x :: st) bc bs hp Q ↔ Go kX6_numberOf 20 [a0, a1] (.int (x - y) :: st) bc bs hp Q := Go_next (i := .isub) rfl rfl
theorem sX6_numberOf_20 {x : Nat} {i : Int32} : Go kX6_numberOf 20 [a0, a1] (.int i :: .ref x :: st) bc bs hp Q ↔ RdA hp x 0 i (fun v => Go kX6_numberOf 21 [a0, a1] (.int v :: st) bc bs hp Q) := Go_iald rfl
theorem sX6_numberOf_21 {x : Int32} : Go kX6_numberOf 21 [a0, a1] [.int x] bc bs hp Q ↔ Q (.inl (some (.int x))) hp := Go_ret (i := .ireturn) rfl rfl
theorem sJxf58ca_isNaN_12338_0 {x : UInt32} : Go kJxf58ca_isNaN_12338 0 [(.float x)] st bc bs hp Q ↔ Go kJxf58ca_isNaN_12338 1 [(.float x)] (.float x :: st) bc bs hp Q := Go_next (i := .fload_n 0) rfl rfl
theorem sJxf58ca_isNaN_12338_1 {x : UInt32} : Go kJxf58ca_isNaN_12338 1 [(.float x)] st bc bs hp Q ↔ Go kJxf58ca_isNaN_12338 2 [(.float x)] (.float x :: st) bc bs hp Q := Go_next (i := .fload_n 0) rfl rfl
theorem sJxf58ca_isNaN_12338_2 {x y : UInt32} : Go kJxf58ca_isNaN_12338 2 [a0] (.float y :: .float x :: st) bc bs hp Q ↔ Go kJxf58ca_isNaN_12338 3 [a0] (.int (Op.cmpValue (FP.fcmp x y) .l) :: st) bc bs hp Q := Go_next (i := .fcmp .l) rfl rfl
theorem sJxf58ca_isNaN_12338_3 {x : Int32} : Go kJxf58ca_isNaN_12338 3 [a0] (.int x :: st) bc bs hp Q ↔ (x = 0 → Go kJxf58ca_isNaN_12338 10 [a0] st bc bs hp Q) ∧ (¬ x = 0 → Go kJxf58ca_isNaN_12338 6 [a0] st bc bs hp Q) := Go_ift (c := x = 0) (i := .ifCond .eq 7) rfl rfl
theorem sJxf58ca_isNaN_12338_6 : Go kJxf58ca_isNaN_12338 6 [a0] st bc bs hp Q ↔ Go kJxf58ca_isNaN_12338 7 [a0] (.int 1 :: st) bc bs hp Q := Go_next (i := .iconst 1) rfl rfl
theorem sJxf58ca_isNaN_12338_7 : Go kJxf58ca_isNaN_12338 7 [a0] st bc bs hp Q ↔ Go kJxf58ca_isNaN_12338 11 [a0] st bc bs hp Q := Go_next (i := .goto 4) rfl rfl
theorem sJxf58ca_isNaN_12338_10 : Go kJxf58ca_isNaN_12338 10 [a0] st bc bs hp Q ↔ Go kJxf58ca_isNaN_12338 11 [a0] (.int 0 :: st) bc bs hp Q := Go_next (i := .iconst 0) rfl rfl
theorem sJxf58ca_isNaN_12338_11 {x : Int32} : Go kJxf58ca_isNaN_12338 11 [a0] [.int x] bc bs hp Q ↔ outI kJxf58ca_isNaN_12338 x = true ∧ Q (.inl (some (.int x))) hp := Go_retIf (i := .ireturn) rfl rfl
theorem sJxf58ca_floatToIntBits_5c35a_0 {x : UInt32} : Go kJxf58ca_floatToIntBits_5c35a 0 [(.float x)] st bc bs hp Q ↔ Go kJxf58ca_floatToIntBits_5c35a 1 [(.float x)] (.float x :: st) bc bs hp Q := Go_next (i := .fload_n 0) rfl rfl
theorem sJxf58ca_floatToIntBits_5c35a_1 {p0 : UInt32} : Go kJxf58ca_floatToIntBits_5c35a 1 [a0] (.float p0 :: st) bc bs hp Q ↔ nsum st ≤ 8 ∧ Call kJxf58ca_isNaN_12338 [.float p0] hp (Aft kJxf58ca_floatToIntBits_5c35a 4 [a0] st bc bs Q) := Go_inv0 (i := .invokestatic 59) rfl rfl rfl rfl rfl rfl
theorem sJxf58ca_floatToIntBits_5c35a_4 {x : Int32} : Go kJxf58ca_floatToIntBits_5c35a 4 [a0] (.int x :: st) bc bs hp Q ↔ (¬ x = 0 → Go kJxf58ca_floatToIntBits_5c35a 12 [a0] st bc bs hp Q) ∧ (x = 0 → Go kJxf58ca_floatToIntBits_5c35a 7 [a0] st bc bs hp Q) := Go_ifn (c := x = 0) (i := .ifCond .ne 8) rfl rfl
theorem sJxf58ca_floatToIntBits_5c35a_7 {x : UInt32} : Go kJxf58ca_floatToIntBits_5c35a 7 [(.float x)] st bc bs hp Q ↔ Go kJxf58ca_floatToIntBits_5c35a 8 [(.float x)] (.float x :: st) bc bs hp Q := Go_next (i := .fload_n 0) rfl rfl
theorem sJxf58ca_floatToIntBits_5c35a_8 {x : UInt32} : Go kJxf58ca_floatToIntBits_5c35a 8 [a0] (.float x :: st) bc bs hp Q ↔ nsum st ≤ 8 ∧ Go kJxf58ca_floatToIntBits_5c35a 11 [a0] (.int x.toInt32 :: st) bc bs hp Q := Go_on (i := .invokestatic 74) rfl rfl
theorem sJxf58ca_floatToIntBits_5c35a_11 {x : Int32} : Go kJxf58ca_floatToIntBits_5c35a 11 [a0] [.int x] bc bs hp Q ↔ Q (.inl (some (.int x))) hp := Go_ret (i := .ireturn) rfl rfl
theorem sJxf58ca_floatToIntBits_5c35a_12 : Go kJxf58ca_floatToIntBits_5c35a 12 [a0] st bc bs hp Q ↔ Go kJxf58ca_floatToIntBits_5c35a 14 [a0] (.int 2143289344 :: st) bc bs hp Q := Go_next (i := .ldc 77) rfl rfl
theorem sJxf58ca_floatToIntBits_5c35a_14 {x : Int32} : Go kJxf58ca_floatToIntBits_5c35a 14 [a0] [.int x] bc bs hp Q ↔ Q (.inl (some (.int x))) hp := Go_ret (i := .ireturn) rfl rfl
end
