section
variable {a0 a1 a2 a3 a4 a5 a6 a7 a8 : Value} {st : List Value} {bc bs : Nat} {hp : Hp} {Q : Out → Hp → Prop}
theorem sL_addLamp_0 {x : Nat} : Go kL_addLamp 0 [a0, (.ref x), a2] st bc bs hp Q ↔ Go kL_addLamp 1 [a0, (.ref x), a2] (.ref x :: st) bc bs hp Q := Go_next (i := .aload_n 1) rfl rfl
theorem sL_addLamp_1 : Go kL_addLamp 1 [a0, a1, a2] st bc bs hp Q ↔ Go kL_addLamp 2 [a0, a1, a2] (.int 0 :: st) bc bs hp Q := Go_next (i := .iconst 0) rfl rfl
theorem sL_addLamp_2 {x : Nat} : Go kL_addLamp 2 [(.ref x), a1, a2] st bc bs hp Q ↔ Go kL_addLamp 3 [(.ref x), a1, a2] (.ref x :: st) bc bs hp Q := Go_next (i := .aload_n 0) rfl rfl
theorem sL_addLamp_3 {x : Nat} : Go kL_addLamp 3 [a0, a1, a2] (.ref x :: st) bc bs hp Q ↔ Rcv hp x 7 ∧ (1 ≤ bc ∧ 6 ≤ bs ∧ nsum st ≤ 8) ∧ Call kX7_addLamp [.ref x] hp (AftH kL_addLamp 6 3 [a0, a1, a2] st (bc - 1) (bs - 6) Q) := Go_invVH rfl rfl rfl rfl rfl rfl rfl rfl rfl rfl
theorem sL_addLamp_6 {x : Int32} : Go kL_addLamp 6 [a0, a1, a2] (.int x :: st) bc bs hp Q ↔ Go kL_addLamp 7 [a0, a1, a2] (.long x.toInt64 :: st) bc bs hp Q := Go_next (i := .i2l) rfl rfl
theorem sL_addLamp_7 {x : Nat} {i : Int32} {y : Int64} : Go kL_addLamp 7 [a0, a1, a2] (.long y :: .int i :: .ref x :: st) bc bs hp Q ↔ WrL hp x i y (fun hp => Go kL_addLamp 8 [a0, a1, a2] st bc bs hp Q) := Go_last rfl
theorem sL_addLamp_8 : Go kL_addLamp 8 [a0, a1, a2] st bc bs hp Q ↔ Go kL_addLamp 14 [a0, a1, a2] st bc bs hp Q := Go_next (i := .goto 6) rfl rfl
theorem sL_addLamp_12 : Go kL_addLamp 12 [a0, a1, a2] st bc bs hp Q ↔ Go kL_addLamp 13 [a0, a1, a2] (.int 1 :: st) bc bs hp Q := Go_next (i := .iconst 1) rfl rfl
theorem sL_addLamp_13 {x : Int32} : Go kL_addLamp 13 [a0, a1, a2] [.int x] bc bs hp Q ↔ Q (.inl (some (.int x))) hp := Go_ret (i := .ireturn) rfl rfl
theorem sL_addLamp_14 : Go kL_addLamp 14 [a0, a1, a2] st bc bs hp Q ↔ Go kL_addLamp 15 [a0, a1, a2] (.int 0 :: st) bc bs hp Q := Go_next (i := .iconst 0) rfl rfl
theorem sL_addLamp_15 {x : Int32} : Go kL_addLamp 15 [a0, a1, a2] [.int x] bc bs hp Q ↔ Q (.inl (some (.int x))) hp := Go_ret (i := .ireturn) rfl rfl
theorem sL_patch_0 {x : Nat} : Go kL_patch 0 [a0, a1, a2, (.ref x), a4] st bc bs hp Q ↔ Go kL_patch 1 [a0, a1, a2, (.ref x), a4] (.ref x :: st) bc bs hp Q := Go_next (i := .aload_n 3) rfl rfl
theorem sL_patch_1 : Go kL_patch 1 [a0, a1, a2, a3, a4] st bc bs hp Q ↔ Go kL_patch 2 [a0, a1, a2, a3, a4] (.int 0 :: st) bc bs hp Q := Go_next (i := .iconst 0) rfl rfl
theorem sL_patch_2 {x : Nat} : Go kL_patch 2 [(.ref x), a1, a2, a3, a4] st bc bs hp Q ↔ Go kL_patch 3 [(.ref x), a1, a2, a3, a4] (.ref x :: st) bc bs hp Q := Go_next (i := .aload_n 0) rfl rfl
theorem sL_patch_3 {x : Int32} : Go kL_patch 3 [a0, (.int x), a2, a3, a4] st bc bs hp Q ↔ Go kL_patch 4 [a0, (.int x), a2, a3, a4] (.int x :: st) bc bs hp Q := Go_next (i := .iload_n 1) rfl rfl
theorem sL_patch_4 {x : Int32} : Go kL_patch 4 [a0, a1, (.int x), a3, a4] st bc bs hp Q ↔ Go kL_patch 5 [a0, a1, (.int x), a3, a4] (.int x :: st) bc bs hp Q := Go_next (i := .iload_n 2) rfl rfl
theorem sL_patch_5 {p0 : Int32} {p1 : Int32} {x : Nat} : Go kL_patch 5 [a0, a1, a2, a3, a4] (.int p1 :: .int p0 :: .ref x :: st) bc bs hp Q ↔ Rcv hp x 7 ∧ (3 ≤ bc ∧ 18 ≤ bs ∧ nsum st ≤ 8) ∧ Call kX7_patch [.ref x, .int p0, .int p1] hp (AftH kL_patch 8 5 [a0, a1, a2, a3, a4] st (bc - 3) (bs - 18) Q) := Go_invVH rfl rfl rfl rfl rfl rfl rfl rfl rfl rfl
theorem sL_patch_8 {x : Int32} : Go kL_patch 8 [a0, a1, a2, a3, a4] (.int x :: st) bc bs hp Q ↔ Go kL_patch 9 [a0, a1, a2, a3, a4] (.long x.toInt64 :: st) bc bs hp Q := Go_next (i := .i2l) rfl rfl
theorem sL_patch_9 {x : Nat} {i : Int32} {y : Int64} : Go kL_patch 9 [a0, a1, a2, a3, a4] (.long y :: .int i :: .ref x :: st) bc bs hp Q ↔ WrL hp x i y (fun hp => Go kL_patch 10 [a0, a1, a2, a3, a4] st bc bs hp Q) := Go_last rfl
theorem sL_patch_10 : Go kL_patch 10 [a0, a1, a2, a3, a4] st bc bs hp Q ↔ Go kL_patch 25 [a0, a1, a2, a3, a4] st bc bs hp Q := Go_next (i := .goto 15) rfl rfl
theorem sL_patch_15 : Go kL_patch 15 [a0, a1, a2, a3, a4] st bc bs hp Q ↔ Go kL_patch 16 [a0, a1, a2, a3, a4] (.int 1 :: st) bc bs hp Q := Go_next (i := .iconst 1) rfl rfl
theorem sL_patch_16 {x : Int32} : Go kL_patch 16 [a0, a1, a2, a3, a4] [.int x] bc bs hp Q ↔ Q (.inl (some (.int x))) hp := Go_ret (i := .ireturn) rfl rfl
theorem sL_patch_19 : Go kL_patch 19 [a0, a1, a2, a3, a4] st bc bs hp Q ↔ Go kL_patch 20 [a0, a1, a2, a3, a4] (.int 2 :: st) bc bs hp Q := Go_next (i := .iconst 2) rfl rfl
theorem sL_patch_20 {x : Int32} : Go kL_patch 20 [a0, a1, a2, a3, a4] [.int x] bc bs hp Q ↔ Q (.inl (some (.int x))) hp := Go_ret (i := .ireturn) rfl rfl
theorem sL_patch_23 : Go kL_patch 23 [a0, a1, a2, a3, a4] st bc bs hp Q ↔ Go kL_patch 24 [a0, a1, a2, a3, a4] (.int 3 :: st) bc bs hp Q := Go_next (i := .iconst 3) rfl rfl
theorem sL_patch_24 {x : Int32} : Go kL_patch 24 [a0, a1, a2, a3, a4] [.int x] bc bs hp Q ↔ Q (.inl (some (.int x))) hp := Go_ret (i := .ireturn) rfl rfl
theorem sL_patch_25 : Go kL_patch 25 [a0, a1, a2, a3, a4] st bc bs hp Q ↔ Go kL_patch 26 [a0, a1, a2, a3, a4] (.int 0 :: st) bc bs hp Q := Go_next (i := .iconst 0) rfl rfl
theorem sL_patch_26 {x : Int32} : Go kL_patch 26 [a0, a1, a2, a3, a4] [.int x] bc bs hp Q ↔ Q (.inl (some (.int x))) hp := Go_ret (i := .ireturn) rfl rfl
theorem sL_addGroup_0 {x : Nat} : Go kL_addGroup 0 [a0, (.ref x), a2] st bc bs hp Q ↔ Go kL_addGroup 1 [a0, (.ref x), a2] (.ref x :: st) bc bs hp Q := Go_next (i := .aload_n 1) rfl rfl
theorem sL_addGroup_1 : Go kL_addGroup 1 [a0, a1, a2] st bc bs hp Q ↔ Go kL_addGroup 2 [a0, a1, a2] (.int 0 :: st) bc bs hp Q := Go_next (i := .iconst 0) rfl rfl
theorem sL_addGroup_2 {x : Nat} : Go kL_addGroup 2 [(.ref x), a1, a2] st bc bs hp Q ↔ Go kL_addGroup 3 [(.ref x), a1, a2] (.ref x :: st) bc bs hp Q := Go_next (i := .aload_n 0) rfl rfl
theorem sL_addGroup_3 {x : Nat} : Go kL_addGroup 3 [a0, a1, a2] (.ref x :: st) bc bs hp Q ↔ Rcv hp x 7 ∧ (1 ≤ bc ∧ 6 ≤ bs ∧ nsum st ≤ 8) ∧ Call kX7_addGroup [.ref x] hp (AftH kL_addGroup 6 3 [a0, a1, a2] st (bc - 1) (bs - 6) Q) := Go_invVH rfl rfl rfl rfl rfl rfl rfl rfl rfl rfl
theorem sL_addGroup_6 {x : Int32} : Go kL_addGroup 6 [a0, a1, a2] (.int x :: st) bc bs hp Q ↔ Go kL_addGroup 7 [a0, a1, a2] (.long x.toInt64 :: st) bc bs hp Q := Go_next (i := .i2l) rfl rfl
theorem sL_addGroup_7 {x : Nat} {i : Int32} {y : Int64} : Go kL_addGroup 7 [a0, a1, a2] (.long y :: .int i :: .ref x :: st) bc bs hp Q ↔ WrL hp x i y (fun hp => Go kL_addGroup 8 [a0, a1, a2] st bc bs hp Q) := Go_last rfl
theorem sL_addGroup_8 : Go kL_addGroup 8 [a0, a1, a2] st bc bs hp Q ↔ Go kL_addGroup 14 [a0, a1, a2] st bc bs hp Q := Go_next (i := .goto 6) rfl rfl
theorem sL_addGroup_12 : Go kL_addGroup 12 [a0, a1, a2] st bc bs hp Q ↔ Go kL_addGroup 13 [a0, a1, a2] (.int 1 :: st) bc bs hp Q := Go_next (i := .iconst 1) rfl rfl
theorem sL_addGroup_13 {x : Int32} : Go kL_addGroup 13 [a0, a1, a2] [.int x] bc bs hp Q ↔ Q (.inl (some (.int x))) hp := Go_ret (i := .ireturn) rfl rfl
theorem sL_addGroup_14 : Go kL_addGroup 14 [a0, a1, a2] st bc bs hp Q ↔ Go kL_addGroup 15 [a0, a1, a2] (.int 0 :: st) bc bs hp Q := Go_next (i := .iconst 0) rfl rfl
theorem sL_addGroup_15 {x : Int32} : Go kL_addGroup 15 [a0, a1, a2] [.int x] bc bs hp Q ↔ Q (.inl (some (.int x))) hp := Go_ret (i := .ireturn) rfl rfl
theorem sL_addToGroup_0 {x : Nat} : Go kL_addToGroup 0 [a0, a1, a2, (.ref x), a4] st bc bs hp Q ↔ Go kL_addToGroup 1 [a0, a1, a2, (.ref x), a4] (.ref x :: st) bc bs hp Q := Go_next (i := .aload_n 3) rfl rfl
theorem sL_addToGroup_1 : Go kL_addToGroup 1 [a0, a1, a2, a3, a4] st bc bs hp Q ↔ Go kL_addToGroup 2 [a0, a1, a2, a3, a4] (.int 0 :: st) bc bs hp Q := Go_next (i := .iconst 0) rfl rfl
theorem sL_addToGroup_2 {x : Nat} : Go kL_addToGroup 2 [(.ref x), a1, a2, a3, a4] st bc bs hp Q ↔ Go kL_addToGroup 3 [(.ref x), a1, a2, a3, a4] (.ref x :: st) bc bs hp Q := Go_next (i := .aload_n 0) rfl rfl
theorem sL_addToGroup_3 {x : Int32} : Go kL_addToGroup 3 [a0, (.int x), a2, a3, a4] st bc bs hp Q ↔ Go kL_addToGroup 4 [a0, (.int x), a2, a3, a4] (.int x :: st) bc bs hp Q := Go_next (i := .iload_n 1) rfl rfl
theorem sL_addToGroup_4 {x : Int32} : Go kL_addToGroup 4 [a0, a1, (.int x), a3, a4] st bc bs hp Q ↔ Go kL_addToGroup 5 [a0, a1, (.int x), a3, a4] (.int x :: st) bc bs hp Q := Go_next (i := .iload_n 2) rfl rfl
theorem sL_addToGroup_5 {p0 : Int32} {p1 : Int32} {x : Nat} : Go kL_addToGroup 5 [a0, a1, a2, a3, a4] (.int p1 :: .int p0 :: .ref x :: st) bc bs hp Q ↔ Rcv hp x 7 ∧ (3 ≤ bc ∧ 18 ≤ bs ∧ nsum st ≤ 8) ∧ Call kX7_addToGroup [.ref x, .int p0, .int p1] hp (AftH kL_addToGroup 8 5 [a0, a1, a2, a3, a4] st (bc - 3) (bs - 18) Q) := Go_invVH rfl rfl rfl rfl rfl rfl rfl rfl rfl rfl
theorem sL_addToGroup_8 {x : Int32} : Go kL_addToGroup 8 [a0, a1, a2, a3, a4] (.int x :: st) bc bs hp Q ↔ Go kL_addToGroup 9 [a0, a1, a2, a3, a4] (.long x.toInt64 :: st) bc bs hp Q := Go_next (i := .i2l) rfl rfl
theorem sL_addToGroup_9 {x : Nat} {i : Int32} {y : Int64} : Go kL_addToGroup 9 [a0, a1, a2, a3, a4] (.long y :: .int i :: .ref x :: st) bc bs hp Q ↔ WrL hp x i y (fun hp => Go kL_addToGroup 10 [a0, a1, a2, a3, a4] st bc bs hp Q) := Go_last rfl
theorem sL_addToGroup_10 : Go kL_addToGroup 10 [a0, a1, a2, a3, a4] st bc bs hp Q ↔ Go kL_addToGroup 25 [a0, a1, a2, a3, a4] st bc bs hp Q := Go_next (i := .goto 15) rfl rfl
theorem sL_addToGroup_15 : Go kL_addToGroup 15 [a0, a1, a2, a3, a4] st bc bs hp Q ↔ Go kL_addToGroup 16 [a0, a1, a2, a3, a4] (.int 1 :: st) bc bs hp Q := Go_next (i := .iconst 1) rfl rfl
theorem sL_addToGroup_16 {x : Int32} : Go kL_addToGroup 16 [a0, a1, a2, a3, a4] [.int x] bc bs hp Q ↔ Q (.inl (some (.int x))) hp := Go_ret (i := .ireturn) rfl rfl
theorem sL_addToGroup_19 : Go kL_addToGroup 19 [a0, a1, a2, a3, a4] st bc bs hp Q ↔ Go kL_addToGroup 20 [a0, a1, a2, a3, a4] (.int 2 :: st) bc bs hp Q := Go_next (i := .iconst 2) rfl rfl
theorem sL_addToGroup_20 {x : Int32} : Go kL_addToGroup 20 [a0, a1, a2, a3, a4] [.int x] bc bs hp Q ↔ Q (.inl (some (.int x))) hp := Go_ret (i := .ireturn) rfl rfl
theorem sL_addToGroup_23 : Go kL_addToGroup 23 [a0, a1, a2, a3, a4] st bc bs hp Q ↔ Go kL_addToGroup 24 [a0, a1, a2, a3, a4] (.int 3 :: st) bc bs hp Q := Go_next (i := .iconst 3) rfl rfl
theorem sL_addToGroup_24 {x : Int32} : Go kL_addToGroup 24 [a0, a1, a2, a3, a4] [.int x] bc bs hp Q ↔ Q (.inl (some (.int x))) hp := Go_ret (i := .ireturn) rfl rfl
theorem sL_addToGroup_25 : Go kL_addToGroup 25 [a0, a1, a2, a3, a4] st bc bs hp Q ↔ Go kL_addToGroup 26 [a0, a1, a2, a3, a4] (.int 0 :: st) bc bs hp Q := Go_next (i := .iconst 0) rfl rfl
theorem sL_addToGroup_26 {x : Int32} : Go kL_addToGroup 26 [a0, a1, a2, a3, a4] [.int x] bc bs hp Q ↔ Q (.inl (some (.int x))) hp := Go_ret (i := .ireturn) rfl rfl
theorem sL_addPalette_0 {x : Nat} : Go kL_addPalette 0 [a0, a1, a2, (.ref x), a4] st bc bs hp Q ↔ Go kL_addPalette 1 [a0, a1, a2, (.ref x), a4] (.ref x :: st) bc bs hp Q := Go_next (i := .aload_n 3) rfl rfl
theorem sL_addPalette_1 : Go kL_addPalette 1 [a0, a1, a2, a3, a4] st bc bs hp Q ↔ Go kL_addPalette 2 [a0, a1, a2, a3, a4] (.int 0 :: st) bc bs hp Q := Go_next (i := .iconst 0) rfl rfl
theorem sL_addPalette_2 {x : Nat} : Go kL_addPalette 2 [(.ref x), a1, a2, a3, a4] st bc bs hp Q ↔ Go kL_addPalette 3 [(.ref x), a1, a2, a3, a4] (.ref x :: st) bc bs hp Q := Go_next (i := .aload_n 0) rfl rfl
theorem sL_addPalette_3 {x : Int32} : Go kL_addPalette 3 [a0, (.int x), a2, a3, a4] st bc bs hp Q ↔ Go kL_addPalette 4 [a0, (.int x), a2, a3, a4] (.int x :: st) bc bs hp Q := Go_next (i := .iload_n 1) rfl rfl
theorem sL_addPalette_4 {x : Int32} : Go kL_addPalette 4 [a0, a1, (.int x), a3, a4] st bc bs hp Q ↔ Go kL_addPalette 5 [a0, a1, (.int x), a3, a4] (.int x :: st) bc bs hp Q := Go_next (i := .iload_n 2) rfl rfl
theorem sL_addPalette_5 {p0 : Int32} {p1 : Int32} {x : Nat} : Go kL_addPalette 5 [a0, a1, a2, a3, a4] (.int p1 :: .int p0 :: .ref x :: st) bc bs hp Q ↔ Rcv hp x 7 ∧ (3 ≤ bc ∧ 18 ≤ bs ∧ nsum st ≤ 8) ∧ Call kX7_addPalette [.ref x, .int p0, .int p1] hp (AftH kL_addPalette 8 5 [a0, a1, a2, a3, a4] st (bc - 3) (bs - 18) Q) := Go_invVH rfl rfl rfl rfl rfl rfl rfl rfl rfl rfl
theorem sL_addPalette_8 {x : Int32} : Go kL_addPalette 8 [a0, a1, a2, a3, a4] (.int x :: st) bc bs hp Q ↔ Go kL_addPalette 9 [a0, a1, a2, a3, a4] (.long x.toInt64 :: st) bc bs hp Q := Go_next (i := .i2l) rfl rfl
theorem sL_addPalette_9 {x : Nat} {i : Int32} {y : Int64} : Go kL_addPalette 9 [a0, a1, a2, a3, a4] (.long y :: .int i :: .ref x :: st) bc bs hp Q ↔ WrL hp x i y (fun hp => Go kL_addPalette 10 [a0, a1, a2, a3, a4] st bc bs hp Q) := Go_last rfl
theorem sL_addPalette_10 : Go kL_addPalette 10 [a0, a1, a2, a3, a4] st bc bs hp Q ↔ Go kL_addPalette 21 [a0, a1, a2, a3, a4] st bc bs hp Q := Go_next (i := .goto 11) rfl rfl
theorem sL_addPalette_15 : Go kL_addPalette 15 [a0, a1, a2, a3, a4] st bc bs hp Q ↔ Go kL_addPalette 16 [a0, a1, a2, a3, a4] (.int 1 :: st) bc bs hp Q := Go_next (i := .iconst 1) rfl rfl
theorem sL_addPalette_16 {x : Int32} : Go kL_addPalette 16 [a0, a1, a2, a3, a4] [.int x] bc bs hp Q ↔ Q (.inl (some (.int x))) hp := Go_ret (i := .ireturn) rfl rfl
theorem sL_addPalette_19 : Go kL_addPalette 19 [a0, a1, a2, a3, a4] st bc bs hp Q ↔ Go kL_addPalette 20 [a0, a1, a2, a3, a4] (.int 2 :: st) bc bs hp Q := Go_next (i := .iconst 2) rfl rfl
theorem sL_addPalette_20 {x : Int32} : Go kL_addPalette 20 [a0, a1, a2, a3, a4] [.int x] bc bs hp Q ↔ Q (.inl (some (.int x))) hp := Go_ret (i := .ireturn) rfl rfl
theorem sL_addPalette_21 : Go kL_addPalette 21 [a0, a1, a2, a3, a4] st bc bs hp Q ↔ Go kL_addPalette 22 [a0, a1, a2, a3, a4] (.int 0 :: st) bc bs hp Q := Go_next (i := .iconst 0) rfl rfl
theorem sL_addPalette_22 {x : Int32} : Go kL_addPalette 22 [a0, a1, a2, a3, a4] [.int x] bc bs hp Q ↔ Q (.inl (some (.int x))) hp := Go_ret (i := .ireturn) rfl rfl
theorem sL_setPalette_0 {x : Nat} : Go kL_setPalette 0 [a0, a1, a2, (.ref x), a4] st bc bs hp Q ↔ Go kL_setPalette 1 [a0, a1, a2, (.ref x), a4] (.ref x :: st) bc bs hp Q := Go_next (i := .aload_n 3) rfl rfl
theorem sL_setPalette_1 : Go kL_setPalette 1 [a0, a1, a2, a3, a4] st bc bs hp Q ↔ Go kL_setPalette 2 [a0, a1, a2, a3, a4] (.int 0 :: st) bc bs hp Q := Go_next (i := .iconst 0) rfl rfl
theorem sL_setPalette_2 {x : Nat} : Go kL_setPalette 2 [(.ref x), a1, a2, a3, a4] st bc bs hp Q ↔ Go kL_setPalette 3 [(.ref x), a1, a2, a3, a4] (.ref x :: st) bc bs hp Q := Go_next (i := .aload_n 0) rfl rfl
theorem sL_setPalette_3 {x : Int32} : Go kL_setPalette 3 [a0, (.int x), a2, a3, a4] st bc bs hp Q ↔ Go kL_setPalette 4 [a0, (.int x), a2, a3, a4] (.int x :: st) bc bs hp Q := Go_next (i := .iload_n 1) rfl rfl
theorem sL_setPalette_4 {x : Int32} : Go kL_setPalette 4 [a0, a1, (.int x), a3, a4] st bc bs hp Q ↔ Go kL_setPalette 5 [a0, a1, (.int x), a3, a4] (.int x :: st) bc bs hp Q := Go_next (i := .iload_n 2) rfl rfl
theorem sL_setPalette_5 {p0 : Int32} {p1 : Int32} {x : Nat} : Go kL_setPalette 5 [a0, a1, a2, a3, a4] (.int p1 :: .int p0 :: .ref x :: st) bc bs hp Q ↔ Rcv hp x 7 ∧ (2 ≤ bc ∧ 12 ≤ bs ∧ nsum st ≤ 8) ∧ Call kX7_setPalette [.ref x, .int p0, .int p1] hp (AftH kL_setPalette 8 5 [a0, a1, a2, a3, a4] st (bc - 2) (bs - 12) Q) := Go_invVH rfl rfl rfl rfl rfl rfl rfl rfl rfl rfl
theorem sL_setPalette_8 {x : Int32} : Go kL_setPalette 8 [a0, a1, a2, a3, a4] (.int x :: st) bc bs hp Q ↔ Go kL_setPalette 9 [a0, a1, a2, a3, a4] (.long x.toInt64 :: st) bc bs hp Q := Go_next (i := .i2l) rfl rfl
theorem sL_setPalette_9 {x : Nat} {i : Int32} {y : Int64} : Go kL_setPalette 9 [a0, a1, a2, a3, a4] (.long y :: .int i :: .ref x :: st) bc bs hp Q ↔ WrL hp x i y (fun hp => Go kL_setPalette 10 [a0, a1, a2, a3, a4] st bc bs hp Q) := Go_last rfl
theorem sL_setPalette_10 : Go kL_setPalette 10 [a0, a1, a2, a3, a4] st bc bs hp Q ↔ Go kL_setPalette 21 [a0, a1, a2, a3, a4] st bc bs hp Q := Go_next (i := .goto 11) rfl rfl
theorem sL_setPalette_15 : Go kL_setPalette 15 [a0, a1, a2, a3, a4] st bc bs hp Q ↔ Go kL_setPalette 16 [a0, a1, a2, a3, a4] (.int 1 :: st) bc bs hp Q := Go_next (i := .iconst 1) rfl rfl
theorem sL_setPalette_16 {x : Int32} : Go kL_setPalette 16 [a0, a1, a2, a3, a4] [.int x] bc bs hp Q ↔ Q (.inl (some (.int x))) hp := Go_ret (i := .ireturn) rfl rfl
theorem sL_setPalette_19 : Go kL_setPalette 19 [a0, a1, a2, a3, a4] st bc bs hp Q ↔ Go kL_setPalette 20 [a0, a1, a2, a3, a4] (.int 2 :: st) bc bs hp Q := Go_next (i := .iconst 2) rfl rfl
theorem sL_setPalette_20 {x : Int32} : Go kL_setPalette 20 [a0, a1, a2, a3, a4] [.int x] bc bs hp Q ↔ Q (.inl (some (.int x))) hp := Go_ret (i := .ireturn) rfl rfl
theorem sL_setPalette_21 : Go kL_setPalette 21 [a0, a1, a2, a3, a4] st bc bs hp Q ↔ Go kL_setPalette 22 [a0, a1, a2, a3, a4] (.int 0 :: st) bc bs hp Q := Go_next (i := .iconst 0) rfl rfl
theorem sL_setPalette_22 {x : Int32} : Go kL_setPalette 22 [a0, a1, a2, a3, a4] [.int x] bc bs hp Q ↔ Q (.inl (some (.int x))) hp := Go_ret (i := .ireturn) rfl rfl
theorem sL_set_0 {x : Nat} : Go kL_set 0 [a0, a1, a2, a3, (.ref x), a5] st bc bs hp Q ↔ Go kL_set 2 [a0, a1, a2, a3, (.ref x), a5] (.ref x :: st) bc bs hp Q := Go_next (i := .aload 4) rfl rfl
theorem sL_set_2 : Go kL_set 2 [a0, a1, a2, a3, a4, a5] st bc bs hp Q ↔ Go kL_set 3 [a0, a1, a2, a3, a4, a5] (.int 0 :: st) bc bs hp Q := Go_next (i := .iconst 0) rfl rfl
theorem sL_set_3 {x : Nat} : Go kL_set 3 [(.ref x), a1, a2, a3, a4, a5] st bc bs hp Q ↔ Go kL_set 4 [(.ref x), a1, a2, a3, a4, a5] (.ref x :: st) bc bs hp Q := Go_next (i := .aload_n 0) rfl rfl
theorem sL_set_4 {x : Int32} : Go kL_set 4 [a0, (.int x), a2, a3, a4, a5] st bc bs hp Q ↔ Go kL_set 5 [a0, (.int x), a2, a3, a4, a5] (.int x :: st) bc bs hp Q := Go_next (i := .iload_n 1) rfl rfl
theorem sL_set_5 {x : Int32} : Go kL_set 5 [a0, a1, (.int x), a3, a4, a5] st bc bs hp Q ↔ Go kL_set 6 [a0, a1, (.int x), a3, a4, a5] (.int x :: st) bc bs hp Q := Go_next (i := .iload_n 2) rfl rfl
theorem sL_set_6 {x : Int32} : Go kL_set 6 [a0, a1, a2, (.int x), a4, a5] st bc bs hp Q ↔ Go kL_set 7 [a0, a1, a2, (.int x), a4, a5] (.int x :: st) bc bs hp Q := Go_next (i := .iload_n 3) rfl rfl
theorem sL_set_7 {p0 : Int32} {p1 : Int32} {p2 : Int32} {x : Nat} : Go kL_set 7 [a0, a1, a2, a3, a4, a5] (.int p2 :: .int p1 :: .int p0 :: .ref x :: st) bc bs hp Q ↔ Rcv hp x 7 ∧ (3 ≤ bc ∧ 18 ≤ bs ∧ nsum st ≤ 8) ∧ Call kX7_set [.ref x, .int p0, .int p1, .int p2] hp (AftH kL_set 10 7 [a0, a1, a2, a3, a4, a5] st (bc - 3) (bs - 18) Q) := Go_invVH rfl rfl rfl rfl rfl rfl rfl rfl rfl rfl
theorem sL_set_10 {x : Int32} : Go kL_set 10 [a0, a1, a2, a3, a4, a5] (.int x :: st) bc bs hp Q ↔ Go kL_set 11 [a0, a1, a2, a3, a4, a5] (.long x.toInt64 :: st) bc bs hp Q := Go_next (i := .i2l) rfl rfl
theorem sL_set_11 {x : Nat} {i : Int32} {y : Int64} : Go kL_set 11 [a0, a1, a2, a3, a4, a5] (.long y :: .int i :: .ref x :: st) bc bs hp Q ↔ WrL hp x i y (fun hp => Go kL_set 12 [a0, a1, a2, a3, a4, a5] st bc bs hp Q) := Go_last rfl
theorem sL_set_12 : Go kL_set 12 [a0, a1, a2, a3, a4, a5] st bc bs hp Q ↔ Go kL_set 23 [a0, a1, a2, a3, a4, a5] st bc bs hp Q := Go_next (i := .goto 11) rfl rfl
theorem sL_set_17 : Go kL_set 17 [a0, a1, a2, a3, a4, a5] st bc bs hp Q ↔ Go kL_set 18 [a0, a1, a2, a3, a4, a5] (.int 1 :: st) bc bs hp Q := Go_next (i := .iconst 1) rfl rfl
theorem sL_set_18 {x : Int32} : Go kL_set 18 [a0, a1, a2, a3, a4, a5] [.int x] bc bs hp Q ↔ Q (.inl (some (.int x))) hp := Go_ret (i := .ireturn) rfl rfl
theorem sL_set_21 : Go kL_set 21 [a0, a1, a2, a3, a4, a5] st bc bs hp Q ↔ Go kL_set 22 [a0, a1, a2, a3, a4, a5] (.int 2 :: st) bc bs hp Q := Go_next (i := .iconst 2) rfl rfl
theorem sL_set_22 {x : Int32} : Go kL_set 22 [a0, a1, a2, a3, a4, a5] [.int x] bc bs hp Q ↔ Q (.inl (some (.int x))) hp := Go_ret (i := .ireturn) rfl rfl
theorem sL_set_23 : Go kL_set 23 [a0, a1, a2, a3, a4, a5] st bc bs hp Q ↔ Go kL_set 24 [a0, a1, a2, a3, a4, a5] (.int 0 :: st) bc bs hp Q := Go_next (i := .iconst 0) rfl rfl
theorem sL_set_24 {x : Int32} : Go kL_set 24 [a0, a1, a2, a3, a4, a5] [.int x] bc bs hp Q ↔ Q (.inl (some (.int x))) hp := Go_ret (i := .ireturn) rfl rfl
theorem sL_point_0 {x : Nat} : Go kL_point 0 [a0, a1, a2, (.ref x), a4] st bc bs hp Q ↔ Go kL_point 1 [a0, a1, a2, (.ref x), a4] (.ref x :: st) bc bs hp Q := Go_next (i := .aload_n 3) rfl rfl
theorem sL_point_1 : Go kL_point 1 [a0, a1, a2, a3, a4] st bc bs hp Q ↔ Go kL_point 2 [a0, a1, a2, a3, a4] (.int 0 :: st) bc bs hp Q := Go_next (i := .iconst 0) rfl rfl
theorem sL_point_2 {x : Nat} : Go kL_point 2 [(.ref x), a1, a2, a3, a4] st bc bs hp Q ↔ Go kL_point 3 [(.ref x), a1, a2, a3, a4] (.ref x :: st) bc bs hp Q := Go_next (i := .aload_n 0) rfl rfl
theorem sL_point_3 {x : Int32} : Go kL_point 3 [a0, (.int x), a2, a3, a4] st bc bs hp Q ↔ Go kL_point 4 [a0, (.int x), a2, a3, a4] (.int x :: st) bc bs hp Q := Go_next (i := .iload_n 1) rfl rfl
theorem sL_point_4 {x : Int32} : Go kL_point 4 [a0, a1, (.int x), a3, a4] st bc bs hp Q ↔ Go kL_point 5 [a0, a1, (.int x), a3, a4] (.int x :: st) bc bs hp Q := Go_next (i := .iload_n 2) rfl rfl
theorem sL_point_5 {p0 : Int32} {p1 : Int32} {x : Nat} : Go kL_point 5 [a0, a1, a2, a3, a4] (.int p1 :: .int p0 :: .ref x :: st) bc bs hp Q ↔ Rcv hp x 7 ∧ (2 ≤ bc ∧ 12 ≤ bs ∧ nsum st ≤ 8) ∧ Call kX7_point [.ref x, .int p0, .int p1] hp (AftH kL_point 8 5 [a0, a1, a2, a3, a4] st (bc - 2) (bs - 12) Q) := Go_invVH rfl rfl rfl rfl rfl rfl rfl rfl rfl rfl
theorem sL_point_8 {x : Int32} : Go kL_point 8 [a0, a1, a2, a3, a4] (.int x :: st) bc bs hp Q ↔ Go kL_point 9 [a0, a1, a2, a3, a4] (.long x.toInt64 :: st) bc bs hp Q := Go_next (i := .i2l) rfl rfl
theorem sL_point_9 {x : Nat} {i : Int32} {y : Int64} : Go kL_point 9 [a0, a1, a2, a3, a4] (.long y :: .int i :: .ref x :: st) bc bs hp Q ↔ WrL hp x i y (fun hp => Go kL_point 10 [a0, a1, a2, a3, a4] st bc bs hp Q) := Go_last rfl
theorem sL_point_10 : Go kL_point 10 [a0, a1, a2, a3, a4] st bc bs hp Q ↔ Go kL_point 21 [a0, a1, a2, a3, a4] st bc bs hp Q := Go_next (i := .goto 11) rfl rfl
theorem sL_point_15 : Go kL_point 15 [a0, a1, a2, a3, a4] st bc bs hp Q ↔ Go kL_point 16 [a0, a1, a2, a3, a4] (.int 1 :: st) bc bs hp Q := Go_next (i := .iconst 1) rfl rfl
theorem sL_point_16 {x : Int32} : Go kL_point 16 [a0, a1, a2, a3, a4] [.int x] bc bs hp Q ↔ Q (.inl (some (.int x))) hp := Go_ret (i := .ireturn) rfl rfl
theorem sL_point_19 : Go kL_point 19 [a0, a1, a2, a3, a4] st bc bs hp Q ↔ Go kL_point 20 [a0, a1, a2, a3, a4] (.int 2 :: st) bc bs hp Q := Go_next (i := .iconst 2) rfl rfl
theorem sL_point_20 {x : Int32} : Go kL_point 20 [a0, a1, a2, a3, a4] [.int x] bc bs hp Q ↔ Q (.inl (some (.int x))) hp := Go_ret (i := .ireturn) rfl rfl
theorem sL_point_21 : Go kL_point 21 [a0, a1, a2, a3, a4] st bc bs hp Q ↔ Go kL_point 22 [a0, a1, a2, a3, a4] (.int 0 :: st) bc bs hp Q := Go_next (i := .iconst 0) rfl rfl
theorem sL_point_22 {x : Int32} : Go kL_point 22 [a0, a1, a2, a3, a4] [.int x] bc bs hp Q ↔ Q (.inl (some (.int x))) hp := Go_ret (i := .ireturn) rfl rfl
theorem sL_fan_0 {x : Nat} : Go kL_fan 0 [a0, a1, a2, a3, a4, (.ref x), a6] st bc bs hp Q ↔ Go kL_fan 2 [a0, a1, a2, a3, a4, (.ref x), a6] (.ref x :: st) bc bs hp Q := Go_next (i := .aload 5) rfl rfl
theorem sL_fan_2 : Go kL_fan 2 [a0, a1, a2, a3, a4, a5, a6] st bc bs hp Q ↔ Go kL_fan 3 [a0, a1, a2, a3, a4, a5, a6] (.int 0 :: st) bc bs hp Q := Go_next (i := .iconst 0) rfl rfl
theorem sL_fan_3 {x : Nat} : Go kL_fan 3 [(.ref x), a1, a2, a3, a4, a5, a6] st bc bs hp Q ↔ Go kL_fan 4 [(.ref x), a1, a2, a3, a4, a5, a6] (.ref x :: st) bc bs hp Q := Go_next (i := .aload_n 0) rfl rfl
theorem sL_fan_4 {x : Int32} : Go kL_fan 4 [a0, (.int x), a2, a3, a4, a5, a6] st bc bs hp Q ↔ Go kL_fan 5 [a0, (.int x), a2, a3, a4, a5, a6] (.int x :: st) bc bs hp Q := Go_next (i := .iload_n 1) rfl rfl
theorem sL_fan_5 {x : Int32} : Go kL_fan 5 [a0, a1, (.int x), a3, a4, a5, a6] st bc bs hp Q ↔ Go kL_fan 6 [a0, a1, (.int x), a3, a4, a5, a6] (.int x :: st) bc bs hp Q := Go_next (i := .iload_n 2) rfl rfl
theorem sL_fan_6 {x : Int32} : Go kL_fan 6 [a0, a1, a2, (.int x), a4, a5, a6] st bc bs hp Q ↔ Go kL_fan 7 [a0, a1, a2, (.int x), a4, a5, a6] (.int x :: st) bc bs hp Q := Go_next (i := .iload_n 3) rfl rfl
theorem sL_fan_7 {x : Int32} : Go kL_fan 7 [a0, a1, a2, a3, (.int x), a5, a6] st bc bs hp Q ↔ Go kL_fan 9 [a0, a1, a2, a3, (.int x), a5, a6] (.int x :: st) bc bs hp Q := Go_next (i := .iload 4) rfl rfl
theorem sL_fan_9 {p0 : Int32} {p1 : Int32} {p2 : Int32} {p3 : Int32} {x : Nat} : Go kL_fan 9 [a0, a1, a2, a3, a4, a5, a6] (.int p3 :: .int p2 :: .int p1 :: .int p0 :: .ref x :: st) bc bs hp Q ↔ Rcv hp x 7 ∧ (4 ≤ bc ∧ 24 ≤ bs ∧ nsum st ≤ 8) ∧ Call kX7_fan [.ref x, .int p0, .int p1, .int p2, .int p3] hp (AftH kL_fan 12 9 [a0, a1, a2, a3, a4, a5, a6] st (bc - 4) (bs - 24) Q) := Go_invVH rfl rfl rfl rfl rfl rfl rfl rfl rfl rfl
theorem sL_fan_12 {x : Int32} : Go kL_fan 12 [a0, a1, a2, a3, a4, a5, a6] (.int x :: st) bc bs hp Q ↔ Go kL_fan 13 [a0, a1, a2, a3, a4, a5, a6] (.long x.toInt64 :: st) bc bs hp Q := Go_next (i := .i2l) rfl rfl
theorem sL_fan_13 {x : Nat} {i : Int32} {y : Int64} : Go kL_fan 13 [a0, a1, a2, a3, a4, a5, a6] (.long y :: .int i :: .ref x :: st) bc bs hp Q ↔ WrL hp x i y (fun hp => Go kL_fan 14 [a0, a1, a2, a3, a4, a5, a6] st bc bs hp Q) := Go_last rfl
theorem sL_fan_14 : Go kL_fan 14 [a0, a1, a2, a3, a4, a5, a6] st bc bs hp Q ↔ Go kL_fan 25 [a0, a1, a2, a3, a4, a5, a6] st bc bs hp Q := Go_next (i := .goto 11) rfl rfl
theorem sL_fan_19 : Go kL_fan 19 [a0, a1, a2, a3, a4, a5, a6] st bc bs hp Q ↔ Go kL_fan 20 [a0, a1, a2, a3, a4, a5, a6] (.int 1 :: st) bc bs hp Q := Go_next (i := .iconst 1) rfl rfl
theorem sL_fan_20 {x : Int32} : Go kL_fan 20 [a0, a1, a2, a3, a4, a5, a6] [.int x] bc bs hp Q ↔ Q (.inl (some (.int x))) hp := Go_ret (i := .ireturn) rfl rfl
theorem sL_fan_23 : Go kL_fan 23 [a0, a1, a2, a3, a4, a5, a6] st bc bs hp Q ↔ Go kL_fan 24 [a0, a1, a2, a3, a4, a5, a6] (.int 2 :: st) bc bs hp Q := Go_next (i := .iconst 2) rfl rfl
theorem sL_fan_24 {x : Int32} : Go kL_fan 24 [a0, a1, a2, a3, a4, a5, a6] [.int x] bc bs hp Q ↔ Q (.inl (some (.int x))) hp := Go_ret (i := .ireturn) rfl rfl
theorem sL_fan_25 : Go kL_fan 25 [a0, a1, a2, a3, a4, a5, a6] st bc bs hp Q ↔ Go kL_fan 26 [a0, a1, a2, a3, a4, a5, a6] (.int 0 :: st) bc bs hp Q := Go_next (i := .iconst 0) rfl rfl
theorem sL_fan_26 {x : Int32} : Go kL_fan 26 [a0, a1, a2, a3, a4, a5, a6] [.int x] bc bs hp Q ↔ Q (.inl (some (.int x))) hp := Go_ret (i := .ireturn) rfl rfl
theorem sL_knockOut_0 {x : Nat} : Go kL_knockOut 0 [a0, a1, a2, (.ref x), a4] st bc bs hp Q ↔ Go kL_knockOut 1 [a0, a1, a2, (.ref x), a4] (.ref x :: st) bc bs hp Q := Go_next (i := .aload_n 3) rfl rfl
theorem sL_knockOut_1 : Go kL_knockOut 1 [a0, a1, a2, a3, a4] st bc bs hp Q ↔ Go kL_knockOut 2 [a0, a1, a2, a3, a4] (.int 0 :: st) bc bs hp Q := Go_next (i := .iconst 0) rfl rfl
theorem sL_knockOut_2 {x : Nat} : Go kL_knockOut 2 [(.ref x), a1, a2, a3, a4] st bc bs hp Q ↔ Go kL_knockOut 3 [(.ref x), a1, a2, a3, a4] (.ref x :: st) bc bs hp Q := Go_next (i := .aload_n 0) rfl rfl
theorem sL_knockOut_3 {x : Int32} : Go kL_knockOut 3 [a0, (.int x), a2, a3, a4] st bc bs hp Q ↔ Go kL_knockOut 4 [a0, (.int x), a2, a3, a4] (.int x :: st) bc bs hp Q := Go_next (i := .iload_n 1) rfl rfl
theorem sL_knockOut_4 {x : Int32} : Go kL_knockOut 4 [a0, a1, (.int x), a3, a4] st bc bs hp Q ↔ Go kL_knockOut 5 [a0, a1, (.int x), a3, a4] (.int x :: st) bc bs hp Q := Go_next (i := .iload_n 2) rfl rfl
theorem sL_knockOut_5 {p0 : Int32} {p1 : Int32} {x : Nat} : Go kL_knockOut 5 [a0, a1, a2, a3, a4] (.int p1 :: .int p0 :: .ref x :: st) bc bs hp Q ↔ Rcv hp x 7 ∧ (3 ≤ bc ∧ 18 ≤ bs ∧ nsum st ≤ 8) ∧ Call kX7_knockOut [.ref x, .int p0, .int p1] hp (AftH kL_knockOut 8 5 [a0, a1, a2, a3, a4] st (bc - 3) (bs - 18) Q) := Go_invVH rfl rfl rfl rfl rfl rfl rfl rfl rfl rfl
theorem sL_knockOut_8 {x : Int32} : Go kL_knockOut 8 [a0, a1, a2, a3, a4] (.int x :: st) bc bs hp Q ↔ Go kL_knockOut 9 [a0, a1, a2, a3, a4] (.long x.toInt64 :: st) bc bs hp Q := Go_next (i := .i2l) rfl rfl
theorem sL_knockOut_9 {x : Nat} {i : Int32} {y : Int64} : Go kL_knockOut 9 [a0, a1, a2, a3, a4] (.long y :: .int i :: .ref x :: st) bc bs hp Q ↔ WrL hp x i y (fun hp => Go kL_knockOut 10 [a0, a1, a2, a3, a4] st bc bs hp Q) := Go_last rfl
theorem sL_knockOut_10 : Go kL_knockOut 10 [a0, a1, a2, a3, a4] st bc bs hp Q ↔ Go kL_knockOut 25 [a0, a1, a2, a3, a4] st bc bs hp Q := Go_next (i := .goto 15) rfl rfl
theorem sL_knockOut_15 : Go kL_knockOut 15 [a0, a1, a2, a3, a4] st bc bs hp Q ↔ Go kL_knockOut 16 [a0, a1, a2, a3, a4] (.int 1 :: st) bc bs hp Q := Go_next (i := .iconst 1) rfl rfl
theorem sL_knockOut_16 {x : Int32} : Go kL_knockOut 16 [a0, a1, a2, a3, a4] [.int x] bc bs hp Q ↔ Q (.inl (some (.int x))) hp := Go_ret (i := .ireturn) rfl rfl
theorem sL_knockOut_19 : Go kL_knockOut 19 [a0, a1, a2, a3, a4] st bc bs hp Q ↔ Go kL_knockOut 20 [a0, a1, a2, a3, a4] (.int 2 :: st) bc bs hp Q := Go_next (i := .iconst 2) rfl rfl
theorem sL_knockOut_20 {x : Int32} : Go kL_knockOut 20 [a0, a1, a2, a3, a4] [.int x] bc bs hp Q ↔ Q (.inl (some (.int x))) hp := Go_ret (i := .ireturn) rfl rfl
theorem sL_knockOut_23 : Go kL_knockOut 23 [a0, a1, a2, a3, a4] st bc bs hp Q ↔ Go kL_knockOut 24 [a0, a1, a2, a3, a4] (.int 3 :: st) bc bs hp Q := Go_next (i := .iconst 3) rfl rfl
theorem sL_knockOut_24 {x : Int32} : Go kL_knockOut 24 [a0, a1, a2, a3, a4] [.int x] bc bs hp Q ↔ Q (.inl (some (.int x))) hp := Go_ret (i := .ireturn) rfl rfl
theorem sL_knockOut_25 : Go kL_knockOut 25 [a0, a1, a2, a3, a4] st bc bs hp Q ↔ Go kL_knockOut 26 [a0, a1, a2, a3, a4] (.int 0 :: st) bc bs hp Q := Go_next (i := .iconst 0) rfl rfl
theorem sL_knockOut_26 {x : Int32} : Go kL_knockOut 26 [a0, a1, a2, a3, a4] [.int x] bc bs hp Q ↔ Q (.inl (some (.int x))) hp := Go_ret (i := .ireturn) rfl rfl
theorem sL_record_0 {x : Nat} : Go kL_record 0 [a0, a1, (.ref x), a3] st bc bs hp Q ↔ Go kL_record 1 [a0, a1, (.ref x), a3] (.ref x :: st) bc bs hp Q := Go_next (i := .aload_n 2) rfl rfl
theorem sL_record_1 : Go kL_record 1 [a0, a1, a2, a3] st bc bs hp Q ↔ Go kL_record 2 [a0, a1, a2, a3] (.int 0 :: st) bc bs hp Q := Go_next (i := .iconst 0) rfl rfl
theorem sL_record_2 {x : Nat} : Go kL_record 2 [(.ref x), a1, a2, a3] st bc bs hp Q ↔ Go kL_record 3 [(.ref x), a1, a2, a3] (.ref x :: st) bc bs hp Q := Go_next (i := .aload_n 0) rfl rfl
theorem sL_record_3 {x : Int32} : Go kL_record 3 [a0, (.int x), a2, a3] st bc bs hp Q ↔ Go kL_record 4 [a0, (.int x), a2, a3] (.int x :: st) bc bs hp Q := Go_next (i := .iload_n 1) rfl rfl
theorem sL_record_4 {p0 : Int32} {x : Nat} : Go kL_record 4 [a0, a1, a2, a3] (.int p0 :: .ref x :: st) bc bs hp Q ↔ Rcv hp x 7 ∧ (2 ≤ bc ∧ 12 ≤ bs ∧ nsum st ≤ 8) ∧ Call kX7_record [.ref x, .int p0] hp (AftH kL_record 7 4 [a0, a1, a2, a3] st (bc - 2) (bs - 12) Q) := Go_invVH rfl rfl rfl rfl rfl rfl rfl rfl rfl rfl
theorem sL_record_7 {x : Int32} : Go kL_record 7 [a0, a1, a2, a3] (.int x :: st) bc bs hp Q ↔ Go kL_record 8 [a0, a1, a2, a3] (.long x.toInt64 :: st) bc bs hp Q := Go_next (i := .i2l) rfl rfl
theorem sL_record_8 {x : Nat} {i : Int32} {y : Int64} : Go kL_record 8 [a0, a1, a2, a3] (.long y :: .int i :: .ref x :: st) bc bs hp Q ↔ WrL hp x i y (fun hp => Go kL_record 9 [a0, a1, a2, a3] st bc bs hp Q) := Go_last rfl
theorem sL_record_9 : Go kL_record 9 [a0, a1, a2, a3] st bc bs hp Q ↔ Go kL_record 21 [a0, a1, a2, a3] st bc bs hp Q := Go_next (i := .goto 12) rfl rfl
theorem sL_record_13 : Go kL_record 13 [a0, a1, a2, a3] st bc bs hp Q ↔ Go kL_record 14 [a0, a1, a2, a3] (.int 1 :: st) bc bs hp Q := Go_next (i := .iconst 1) rfl rfl
theorem sL_record_14 {x : Int32} : Go kL_record 14 [a0, a1, a2, a3] [.int x] bc bs hp Q ↔ Q (.inl (some (.int x))) hp := Go_ret (i := .ireturn) rfl rfl
theorem sL_record_16 : Go kL_record 16 [a0, a1, a2, a3] st bc bs hp Q ↔ Go kL_record 17 [a0, a1, a2, a3] (.int 2 :: st) bc bs hp Q := Go_next (i := .iconst 2) rfl rfl
theorem sL_record_17 {x : Int32} : Go kL_record 17 [a0, a1, a2, a3] [.int x] bc bs hp Q ↔ Q (.inl (some (.int x))) hp := Go_ret (i := .ireturn) rfl rfl
theorem sL_record_19 : Go kL_record 19 [a0, a1, a2, a3] st bc bs hp Q ↔ Go kL_record 20 [a0, a1, a2, a3] (.int 3 :: st) bc bs hp Q := Go_next (i := .iconst 3) rfl rfl
theorem sL_record_20 {x : Int32} : Go kL_record 20 [a0, a1, a2, a3] [.int x] bc bs hp Q ↔ Q (.inl (some (.int x))) hp := Go_ret (i := .ireturn) rfl rfl
theorem sL_record_21 : Go kL_record 21 [a0, a1, a2, a3] st bc bs hp Q ↔ Go kL_record 22 [a0, a1, a2, a3] (.int 0 :: st) bc bs hp Q := Go_next (i := .iconst 0) rfl rfl
theorem sL_record_22 {x : Int32} : Go kL_record 22 [a0, a1, a2, a3] [.int x] bc bs hp Q ↔ Q (.inl (some (.int x))) hp := Go_ret (i := .ireturn) rfl rfl
theorem sL_setTimes_0 {x : Nat} : Go kL_setTimes 0 [a0, a1, a2, a3, a4, (.ref x), a6] st bc bs hp Q ↔ Go kL_setTimes 2 [a0, a1, a2, a3, a4, (.ref x), a6] (.ref x :: st) bc bs hp Q := Go_next (i := .aload 5) rfl rfl
theorem sL_setTimes_2 : Go kL_setTimes 2 [a0, a1, a2, a3, a4, a5, a6] st bc bs hp Q ↔ Go kL_setTimes 3 [a0, a1, a2, a3, a4, a5, a6] (.int 0 :: st) bc bs hp Q := Go_next (i := .iconst 0) rfl rfl
theorem sL_setTimes_3 {x : Nat} : Go kL_setTimes 3 [(.ref x), a1, a2, a3, a4, a5, a6] st bc bs hp Q ↔ Go kL_setTimes 4 [(.ref x), a1, a2, a3, a4, a5, a6] (.ref x :: st) bc bs hp Q := Go_next (i := .aload_n 0) rfl rfl
theorem sL_setTimes_4 {x : Int32} : Go kL_setTimes 4 [a0, (.int x), a2, a3, a4, a5, a6] st bc bs hp Q ↔ Go kL_setTimes 5 [a0, (.int x), a2, a3, a4, a5, a6] (.int x :: st) bc bs hp Q := Go_next (i := .iload_n 1) rfl rfl
theorem sL_setTimes_5 {x : Int32} : Go kL_setTimes 5 [a0, a1, (.int x), a3, a4, a5, a6] st bc bs hp Q ↔ Go kL_setTimes 6 [a0, a1, (.int x), a3, a4, a5, a6] (.int x :: st) bc bs hp Q := Go_next (i := .iload_n 2) rfl rfl
theorem sL_setTimes_6 {x : Int32} : Go kL_setTimes 6 [a0, a1, a2, (.int x), a4, a5, a6] st bc bs hp Q ↔ Go kL_setTimes 7 [a0, a1, a2, (.int x), a4, a5, a6] (.int x :: st) bc bs hp Q := Go_next (i := .iload_n 3) rfl rfl
theorem sL_setTimes_7 {x : Int32} : Go kL_setTimes 7 [a0, a1, a2, a3, (.int x), a5, a6] st bc bs hp Q ↔ Go kL_setTimes 9 [a0, a1, a2, a3, (.int x), a5, a6] (.int x :: st) bc bs hp Q := Go_next (i := .iload 4) rfl rfl
theorem sL_setTimes_9 {p0 : Int32} {p1 : Int32} {p2 : Int32} {p3 : Int32} {x : Nat} : Go kL_setTimes 9 [a0, a1, a2, a3, a4, a5, a6] (.int p3 :: .int p2 :: .int p1 :: .int p0 :: .ref x :: st) bc bs hp Q ↔ Rcv hp x 7 ∧ (4 ≤ bc ∧ 24 ≤ bs ∧ nsum st ≤ 8) ∧ Call kX7_setTimes [.ref x, .int p0, .int p1, .int p2, .int p3] hp (AftH kL_setTimes 12 9 [a0, a1, a2, a3, a4, a5, a6] st (bc - 4) (bs - 24) Q) := Go_invVH rfl rfl rfl rfl rfl rfl rfl rfl rfl rfl
theorem sL_setTimes_12 {x : Int32} : Go kL_setTimes 12 [a0, a1, a2, a3, a4, a5, a6] (.int x :: st) bc bs hp Q ↔ Go kL_setTimes 13 [a0, a1, a2, a3, a4, a5, a6] (.long x.toInt64 :: st) bc bs hp Q := Go_next (i := .i2l) rfl rfl
theorem sL_setTimes_13 {x : Nat} {i : Int32} {y : Int64} : Go kL_setTimes 13 [a0, a1, a2, a3, a4, a5, a6] (.long y :: .int i :: .ref x :: st) bc bs hp Q ↔ WrL hp x i y (fun hp => Go kL_setTimes 14 [a0, a1, a2, a3, a4, a5, a6] st bc bs hp Q) := Go_last rfl
theorem sL_setTimes_14 : Go kL_setTimes 14 [a0, a1, a2, a3, a4, a5, a6] st bc bs hp Q ↔ Go kL_setTimes 25 [a0, a1, a2, a3, a4, a5, a6] st bc bs hp Q := Go_next (i := .goto 11) rfl rfl
theorem sL_setTimes_19 : Go kL_setTimes 19 [a0, a1, a2, a3, a4, a5, a6] st bc bs hp Q ↔ Go kL_setTimes 20 [a0, a1, a2, a3, a4, a5, a6] (.int 1 :: st) bc bs hp Q := Go_next (i := .iconst 1) rfl rfl
theorem sL_setTimes_20 {x : Int32} : Go kL_setTimes 20 [a0, a1, a2, a3, a4, a5, a6] [.int x] bc bs hp Q ↔ Q (.inl (some (.int x))) hp := Go_ret (i := .ireturn) rfl rfl
theorem sL_setTimes_23 : Go kL_setTimes 23 [a0, a1, a2, a3, a4, a5, a6] st bc bs hp Q ↔ Go kL_setTimes 24 [a0, a1, a2, a3, a4, a5, a6] (.int 2 :: st) bc bs hp Q := Go_next (i := .iconst 2) rfl rfl
theorem sL_setTimes_24 {x : Int32} : Go kL_setTimes 24 [a0, a1, a2, a3, a4, a5, a6] [.int x] bc bs hp Q ↔ Q (.inl (some (.int x))) hp := Go_ret (i := .ireturn) rfl rfl
theorem sL_setTimes_25 : Go kL_setTimes 25 [a0, a1, a2, a3, a4, a5, a6] st bc bs hp Q ↔ Go kL_setTimes 26 [a0, a1, a2, a3, a4, a5, a6] (.int 0 :: st) bc bs hp Q := Go_next (i := .iconst 0) rfl rfl
theorem sL_setTimes_26 {x : Int32} : Go kL_setTimes 26 [a0, a1, a2, a3, a4, a5, a6] [.int x] bc bs hp Q ↔ Q (.inl (some (.int x))) hp := Go_ret (i := .ireturn) rfl rfl
theorem sL_setFollow_0 {x : Nat} : Go kL_setFollow 0 [a0, a1, a2, a3, (.ref x), a5] st bc bs hp Q ↔ Go kL_setFollow 2 [a0, a1, a2, a3, (.ref x), a5] (.ref x :: st) bc bs hp Q := Go_next (i := .aload 4) rfl rfl
theorem sL_setFollow_2 : Go kL_setFollow 2 [a0, a1, a2, a3, a4, a5] st bc bs hp Q ↔ Go kL_setFollow 3 [a0, a1, a2, a3, a4, a5] (.int 0 :: st) bc bs hp Q := Go_next (i := .iconst 0) rfl rfl
theorem sL_setFollow_3 {x : Nat} : Go kL_setFollow 3 [(.ref x), a1, a2, a3, a4, a5] st bc bs hp Q ↔ Go kL_setFollow 4 [(.ref x), a1, a2, a3, a4, a5] (.ref x :: st) bc bs hp Q := Go_next (i := .aload_n 0) rfl rfl
theorem sL_setFollow_4 {x : Int32} : Go kL_setFollow 4 [a0, (.int x), a2, a3, a4, a5] st bc bs hp Q ↔ Go kL_setFollow 5 [a0, (.int x), a2, a3, a4, a5] (.int x :: st) bc bs hp Q := Go_next (i := .iload_n 1) rfl rfl
theorem sL_setFollow_5 {x : Int32} : Go kL_setFollow 5 [a0, a1, (.int x), a3, a4, a5] st bc bs hp Q ↔ Go kL_setFollow 6 [a0, a1, (.int x), a3, a4, a5] (.int x :: st) bc bs hp Q := Go_next (i := .iload_n 2) rfl rfl
theorem sL_setFollow_6 {x : Int32} : Go kL_setFollow 6 [a0, a1, a2, (.int x), a4, a5] st bc bs hp Q ↔ Go kL_setFollow 7 [a0, a1, a2, (.int x), a4, a5] (.int x :: st) bc bs hp Q := Go_next (i := .iload_n 3) rfl rfl
theorem sL_setFollow_7 {p0 : Int32} {p1 : Int32} {p2 : Int32} {x : Nat} : Go kL_setFollow 7 [a0, a1, a2, a3, a4, a5] (.int p2 :: .int p1 :: .int p0 :: .ref x :: st) bc bs hp Q ↔ Rcv hp x 7 ∧ (3 ≤ bc ∧ 18 ≤ bs ∧ nsum st ≤ 8) ∧ Call kX7_setFollow [.ref x, .int p0, .int p1, .int p2] hp (AftH kL_setFollow 10 7 [a0, a1, a2, a3, a4, a5] st (bc - 3) (bs - 18) Q) := Go_invVH rfl rfl rfl rfl rfl rfl rfl rfl rfl rfl
theorem sL_setFollow_10 {x : Int32} : Go kL_setFollow 10 [a0, a1, a2, a3, a4, a5] (.int x :: st) bc bs hp Q ↔ Go kL_setFollow 11 [a0, a1, a2, a3, a4, a5] (.long x.toInt64 :: st) bc bs hp Q := Go_next (i := .i2l) rfl rfl
theorem sL_setFollow_11 {x : Nat} {i : Int32} {y : Int64} : Go kL_setFollow 11 [a0, a1, a2, a3, a4, a5] (.long y :: .int i :: .ref x :: st) bc bs hp Q ↔ WrL hp x i y (fun hp => Go kL_setFollow 12 [a0, a1, a2, a3, a4, a5] st bc bs hp Q) := Go_last rfl
theorem sL_setFollow_12 : Go kL_setFollow 12 [a0, a1, a2, a3, a4, a5] st bc bs hp Q ↔ Go kL_setFollow 23 [a0, a1, a2, a3, a4, a5] st bc bs hp Q := Go_next (i := .goto 11) rfl rfl
theorem sL_setFollow_17 : Go kL_setFollow 17 [a0, a1, a2, a3, a4, a5] st bc bs hp Q ↔ Go kL_setFollow 18 [a0, a1, a2, a3, a4, a5] (.int 1 :: st) bc bs hp Q := Go_next (i := .iconst 1) rfl rfl
theorem sL_setFollow_18 {x : Int32} : Go kL_setFollow 18 [a0, a1, a2, a3, a4, a5] [.int x] bc bs hp Q ↔ Q (.inl (some (.int x))) hp := Go_ret (i := .ireturn) rfl rfl
theorem sL_setFollow_21 : Go kL_setFollow 21 [a0, a1, a2, a3, a4, a5] st bc bs hp Q ↔ Go kL_setFollow 22 [a0, a1, a2, a3, a4, a5] (.int 2 :: st) bc bs hp Q := Go_next (i := .iconst 2) rfl rfl
theorem sL_setFollow_22 {x : Int32} : Go kL_setFollow 22 [a0, a1, a2, a3, a4, a5] [.int x] bc bs hp Q ↔ Q (.inl (some (.int x))) hp := Go_ret (i := .ireturn) rfl rfl
theorem sL_setFollow_23 : Go kL_setFollow 23 [a0, a1, a2, a3, a4, a5] st bc bs hp Q ↔ Go kL_setFollow 24 [a0, a1, a2, a3, a4, a5] (.int 0 :: st) bc bs hp Q := Go_next (i := .iconst 0) rfl rfl
theorem sL_setFollow_24 {x : Int32} : Go kL_setFollow 24 [a0, a1, a2, a3, a4, a5] [.int x] bc bs hp Q ↔ Q (.inl (some (.int x))) hp := Go_ret (i := .ireturn) rfl rfl
theorem sL_setLink_0 {x : Nat} : Go kL_setLink 0 [a0, a1, a2, a3, (.ref x), a5] st bc bs hp Q ↔ Go kL_setLink 2 [a0, a1, a2, a3, (.ref x), a5] (.ref x :: st) bc bs hp Q := Go_next (i := .aload 4) rfl rfl
theorem sL_setLink_2 : Go kL_setLink 2 [a0, a1, a2, a3, a4, a5] st bc bs hp Q ↔ Go kL_setLink 3 [a0, a1, a2, a3, a4, a5] (.int 0 :: st) bc bs hp Q := Go_next (i := .iconst 0) rfl rfl
theorem sL_setLink_3 {x : Nat} : Go kL_setLink 3 [(.ref x), a1, a2, a3, a4, a5] st bc bs hp Q ↔ Go kL_setLink 4 [(.ref x), a1, a2, a3, a4, a5] (.ref x :: st) bc bs hp Q := Go_next (i := .aload_n 0) rfl rfl
theorem sL_setLink_4 {x : Int32} : Go kL_setLink 4 [a0, (.int x), a2, a3, a4, a5] st bc bs hp Q ↔ Go kL_setLink 5 [a0, (.int x), a2, a3, a4, a5] (.int x :: st) bc bs hp Q := Go_next (i := .iload_n 1) rfl rfl
theorem sL_setLink_5 {x : Int32} : Go kL_setLink 5 [a0, a1, (.int x), a3, a4, a5] st bc bs hp Q ↔ Go kL_setLink 6 [a0, a1, (.int x), a3, a4, a5] (.int x :: st) bc bs hp Q := Go_next (i := .iload_n 2) rfl rfl
theorem sL_setLink_6 {x : Int32} : Go kL_setLink 6 [a0, a1, a2, (.int x), a4, a5] st bc bs hp Q ↔ Go kL_setLink 7 [a0, a1, a2, (.int x), a4, a5] (.int x :: st) bc bs hp Q := Go_next (i := .iload_n 3) rfl rfl
theorem sL_setLink_7 {p0 : Int32} {p1 : Int32} {p2 : Int32} {x : Nat} : Go kL_setLink 7 [a0, a1, a2, a3, a4, a5] (.int p2 :: .int p1 :: .int p0 :: .ref x :: st) bc bs hp Q ↔ Rcv hp x 7 ∧ (3 ≤ bc ∧ 18 ≤ bs ∧ nsum st ≤ 8) ∧ Call kX7_setLink [.ref x, .int p0, .int p1, .int p2] hp (AftH kL_setLink 10 7 [a0, a1, a2, a3, a4, a5] st (bc - 3) (bs - 18) Q) := Go_invVH rfl rfl rfl rfl rfl rfl rfl rfl rfl rfl
theorem sL_setLink_10 {x : Int32} : Go kL_setLink 10 [a0, a1, a2, a3, a4, a5] (.int x :: st) bc bs hp Q ↔ Go kL_setLink 11 [a0, a1, a2, a3, a4, a5] (.long x.toInt64 :: st) bc bs hp Q := Go_next (i := .i2l) rfl rfl
theorem sL_setLink_11 {x : Nat} {i : Int32} {y : Int64} : Go kL_setLink 11 [a0, a1, a2, a3, a4, a5] (.long y :: .int i :: .ref x :: st) bc bs hp Q ↔ WrL hp x i y (fun hp => Go kL_setLink 12 [a0, a1, a2, a3, a4, a5] st bc bs hp Q) := Go_last rfl
theorem sL_setLink_12 : Go kL_setLink 12 [a0, a1, a2, a3, a4, a5] st bc bs hp Q ↔ Go kL_setLink 23 [a0, a1, a2, a3, a4, a5] st bc bs hp Q := Go_next (i := .goto 11) rfl rfl
theorem sL_setLink_17 : Go kL_setLink 17 [a0, a1, a2, a3, a4, a5] st bc bs hp Q ↔ Go kL_setLink 18 [a0, a1, a2, a3, a4, a5] (.int 1 :: st) bc bs hp Q := Go_next (i := .iconst 1) rfl rfl
theorem sL_setLink_18 {x : Int32} : Go kL_setLink 18 [a0, a1, a2, a3, a4, a5] [.int x] bc bs hp Q ↔ Q (.inl (some (.int x))) hp := Go_ret (i := .ireturn) rfl rfl
theorem sL_setLink_21 : Go kL_setLink 21 [a0, a1, a2, a3, a4, a5] st bc bs hp Q ↔ Go kL_setLink 22 [a0, a1, a2, a3, a4, a5] (.int 2 :: st) bc bs hp Q := Go_next (i := .iconst 2) rfl rfl
theorem sL_setLink_22 {x : Int32} : Go kL_setLink 22 [a0, a1, a2, a3, a4, a5] [.int x] bc bs hp Q ↔ Q (.inl (some (.int x))) hp := Go_ret (i := .ireturn) rfl rfl
theorem sL_setLink_23 : Go kL_setLink 23 [a0, a1, a2, a3, a4, a5] st bc bs hp Q ↔ Go kL_setLink 24 [a0, a1, a2, a3, a4, a5] (.int 0 :: st) bc bs hp Q := Go_next (i := .iconst 0) rfl rfl
theorem sL_setLink_24 {x : Int32} : Go kL_setLink 24 [a0, a1, a2, a3, a4, a5] [.int x] bc bs hp Q ↔ Q (.inl (some (.int x))) hp := Go_ret (i := .ireturn) rfl rfl
theorem sL_setCode_0 {x : Nat} : Go kL_setCode 0 [a0, a1, a2, a3, (.ref x), a5] st bc bs hp Q ↔ Go kL_setCode 2 [a0, a1, a2, a3, (.ref x), a5] (.ref x :: st) bc bs hp Q := Go_next (i := .aload 4) rfl rfl
theorem sL_setCode_2 : Go kL_setCode 2 [a0, a1, a2, a3, a4, a5] st bc bs hp Q ↔ Go kL_setCode 3 [a0, a1, a2, a3, a4, a5] (.int 0 :: st) bc bs hp Q := Go_next (i := .iconst 0) rfl rfl
theorem sL_setCode_3 {x : Nat} : Go kL_setCode 3 [(.ref x), a1, a2, a3, a4, a5] st bc bs hp Q ↔ Go kL_setCode 4 [(.ref x), a1, a2, a3, a4, a5] (.ref x :: st) bc bs hp Q := Go_next (i := .aload_n 0) rfl rfl
theorem sL_setCode_4 {x : Int32} : Go kL_setCode 4 [a0, (.int x), a2, a3, a4, a5] st bc bs hp Q ↔ Go kL_setCode 5 [a0, (.int x), a2, a3, a4, a5] (.int x :: st) bc bs hp Q := Go_next (i := .iload_n 1) rfl rfl
theorem sL_setCode_5 {x : Int32} : Go kL_setCode 5 [a0, a1, (.int x), a3, a4, a5] st bc bs hp Q ↔ Go kL_setCode 6 [a0, a1, (.int x), a3, a4, a5] (.int x :: st) bc bs hp Q := Go_next (i := .iload_n 2) rfl rfl
theorem sL_setCode_6 {x : Int32} : Go kL_setCode 6 [a0, a1, a2, (.int x), a4, a5] st bc bs hp Q ↔ Go kL_setCode 7 [a0, a1, a2, (.int x), a4, a5] (.int x :: st) bc bs hp Q := Go_next (i := .iload_n 3) rfl rfl
theorem sL_setCode_7 {p0 : Int32} {p1 : Int32} {p2 : Int32} {x : Nat} : Go kL_setCode 7 [a0, a1, a2, a3, a4, a5] (.int p2 :: .int p1 :: .int p0 :: .ref x :: st) bc bs hp Q ↔ Rcv hp x 7 ∧ (3 ≤ bc ∧ 18 ≤ bs ∧ nsum st ≤ 8) ∧ Call kX7_setCode [.ref x, .int p0, .int p1, .int p2] hp (AftH kL_setCode 10 7 [a0, a1, a2, a3, a4, a5] st (bc - 3) (bs - 18) Q) := Go_invVH rfl rfl rfl rfl rfl rfl rfl rfl rfl rfl
theorem sL_setCode_10 {x : Int32} : Go kL_setCode 10 [a0, a1, a2, a3, a4, a5] (.int x :: st) bc bs hp Q ↔ Go kL_setCode 11 [a0, a1, a2, a3, a4, a5] (.long x.toInt64 :: st) bc bs hp Q := Go_next (i := .i2l) rfl rfl
theorem sL_setCode_11 {x : Nat} {i : Int32} {y : Int64} : Go kL_setCode 11 [a0, a1, a2, a3, a4, a5] (.long y :: .int i :: .ref x :: st) bc bs hp Q ↔ WrL hp x i y (fun hp => Go kL_setCode 12 [a0, a1, a2, a3, a4, a5] st bc bs hp Q) := Go_last rfl
theorem sL_setCode_12 : Go kL_setCode 12 [a0, a1, a2, a3, a4, a5] st bc bs hp Q ↔ Go kL_setCode 23 [a0, a1, a2, a3, a4, a5] st bc bs hp Q := Go_next (i := .goto 11) rfl rfl
theorem sL_setCode_17 : Go kL_setCode 17 [a0, a1, a2, a3, a4, a5] st bc bs hp Q ↔ Go kL_setCode 18 [a0, a1, a2, a3, a4, a5] (.int 1 :: st) bc bs hp Q := Go_next (i := .iconst 1) rfl rfl
theorem sL_setCode_18 {x : Int32} : Go kL_setCode 18 [a0, a1, a2, a3, a4, a5] [.int x] bc bs hp Q ↔ Q (.inl (some (.int x))) hp := Go_ret (i := .ireturn) rfl rfl
theorem sL_setCode_21 : Go kL_setCode 21 [a0, a1, a2, a3, a4, a5] st bc bs hp Q ↔ Go kL_setCode 22 [a0, a1, a2, a3, a4, a5] (.int 2 :: st) bc bs hp Q := Go_next (i := .iconst 2) rfl rfl
theorem sL_setCode_22 {x : Int32} : Go kL_setCode 22 [a0, a1, a2, a3, a4, a5] [.int x] bc bs hp Q ↔ Q (.inl (some (.int x))) hp := Go_ret (i := .ireturn) rfl rfl
theorem sL_setCode_23 : Go kL_setCode 23 [a0, a1, a2, a3, a4, a5] st bc bs hp Q ↔ Go kL_setCode 24 [a0, a1, a2, a3, a4, a5] (.int 0 :: st) bc bs hp Q := Go_next (i := .iconst 0) rfl rfl
theorem sL_setCode_24 {x : Int32} : Go kL_setCode 24 [a0, a1, a2, a3, a4, a5] [.int x] bc bs hp Q ↔ Q (.inl (some (.int x))) hp := Go_ret (i := .ireturn) rfl rfl
theorem sL_setAssert_0 {x : Nat} : Go kL_setAssert 0 [a0, a1, a2, a3, (.ref x), a5] st bc bs hp Q ↔ Go kL_setAssert 2 [a0, a1, a2, a3, (.ref x), a5] (.ref x :: st) bc bs hp Q := Go_next (i := .aload 4) rfl rfl
theorem sL_setAssert_2 : Go kL_setAssert 2 [a0, a1, a2, a3, a4, a5] st bc bs hp Q ↔ Go kL_setAssert 3 [a0, a1, a2, a3, a4, a5] (.int 0 :: st) bc bs hp Q := Go_next (i := .iconst 0) rfl rfl
theorem sL_setAssert_3 {x : Nat} : Go kL_setAssert 3 [(.ref x), a1, a2, a3, a4, a5] st bc bs hp Q ↔ Go kL_setAssert 4 [(.ref x), a1, a2, a3, a4, a5] (.ref x :: st) bc bs hp Q := Go_next (i := .aload_n 0) rfl rfl
theorem sL_setAssert_4 {x : Int32} : Go kL_setAssert 4 [a0, (.int x), a2, a3, a4, a5] st bc bs hp Q ↔ Go kL_setAssert 5 [a0, (.int x), a2, a3, a4, a5] (.int x :: st) bc bs hp Q := Go_next (i := .iload_n 1) rfl rfl
theorem sL_setAssert_5 {x : Int32} : Go kL_setAssert 5 [a0, a1, (.int x), a3, a4, a5] st bc bs hp Q ↔ Go kL_setAssert 6 [a0, a1, (.int x), a3, a4, a5] (.int x :: st) bc bs hp Q := Go_next (i := .iload_n 2) rfl rfl
theorem sL_setAssert_6 {x : Int32} : Go kL_setAssert 6 [a0, a1, a2, (.int x), a4, a5] st bc bs hp Q ↔ Go kL_setAssert 7 [a0, a1, a2, (.int x), a4, a5] (.int x :: st) bc bs hp Q := Go_next (i := .iload_n 3) rfl rfl
theorem sL_setAssert_7 {p0 : Int32} {p1 : Int32} {p2 : Int32} {x : Nat} : Go kL_setAssert 7 [a0, a1, a2, a3, a4, a5] (.int p2 :: .int p1 :: .int p0 :: .ref x :: st) bc bs hp Q ↔ Rcv hp x 7 ∧ (2 ≤ bc ∧ 12 ≤ bs ∧ nsum st ≤ 8) ∧ Call kX7_setAssert [.ref x, .int p0, .int p1, .int p2] hp (AftH kL_setAssert 10 7 [a0, a1, a2, a3, a4, a5] st (bc - 2) (bs - 12) Q) := Go_invVH rfl rfl rfl rfl rfl rfl rfl rfl rfl rfl
theorem sL_setAssert_10 {x : Int32} : Go kL_setAssert 10 [a0, a1, a2, a3, a4, a5] (.int x :: st) bc bs hp Q ↔ (x = 0 → Go kL_setAssert 17 [a0, a1, a2, a3, a4, a5] st bc bs hp Q) ∧ (¬ x = 0 → Go kL_setAssert 13 [a0, a1, a2, a3, a4, a5] st bc bs hp Q) := Go_ift (c := x = 0) (i := .ifCond .eq 7) rfl rfl
theorem sL_setAssert_13 : Go kL_setAssert 13 [a0, a1, a2, a3, a4, a5] st bc bs hp Q ↔ Go kL_setAssert 14 [a0, a1, a2, a3, a4, a5] (.long 1 :: st) bc bs hp Q := Go_next (i := .lconst 1) rfl rfl
theorem sL_setAssert_14 : Go kL_setAssert 14 [a0, a1, a2, a3, a4, a5] st bc bs hp Q ↔ Go kL_setAssert 18 [a0, a1, a2, a3, a4, a5] st bc bs hp Q := Go_next (i := .goto 4) rfl rfl
theorem sL_setAssert_17 : Go kL_setAssert 17 [a0, a1, a2, a3, a4, a5] st bc bs hp Q ↔ Go kL_setAssert 18 [a0, a1, a2, a3, a4, a5] (.long 0 :: st) bc bs hp Q := Go_next (i := .lconst 0) rfl rfl
theorem sL_setAssert_18 {x : Nat} {i : Int32} {y : Int64} : Go kL_setAssert 18 [a0, a1, a2, a3, a4, a5] (.long y :: .int i :: .ref x :: st) bc bs hp Q ↔ WrL hp x i y (fun hp => Go kL_setAssert 19 [a0, a1, a2, a3, a4, a5] st bc bs hp Q) := Go_last rfl
theorem sL_setAssert_19 : Go kL_setAssert 19 [a0, a1, a2, a3, a4, a5] st bc bs hp Q ↔ Go kL_setAssert 26 [a0, a1, a2, a3, a4, a5] st bc bs hp Q := Go_next (i := .goto 7) rfl rfl
theorem sL_setAssert_24 : Go kL_setAssert 24 [a0, a1, a2, a3, a4, a5] st bc bs hp Q ↔ Go kL_setAssert 25 [a0, a1, a2, a3, a4, a5] (.int 1 :: st) bc bs hp Q := Go_next (i := .iconst 1) rfl rfl
theorem sL_setAssert_25 {x : Int32} : Go kL_setAssert 25 [a0, a1, a2, a3, a4, a5] [.int x] bc bs hp Q ↔ Q (.inl (some (.int x))) hp := Go_ret (i := .ireturn) rfl rfl
theorem sL_setAssert_26 : Go kL_setAssert 26 [a0, a1, a2, a3, a4, a5] st bc bs hp Q ↔ Go kL_setAssert 27 [a0, a1, a2, a3, a4, a5] (.int 0 :: st) bc bs hp Q := Go_next (i := .iconst 0) rfl rfl
theorem sL_setAssert_27 {x : Int32} : Go kL_setAssert 27 [a0, a1, a2, a3, a4, a5] [.int x] bc bs hp Q ↔ Q (.inl (some (.int x))) hp := Go_ret (i := .ireturn) rfl rfl
theorem sL_setMaster_0 {x : Nat} : Go kL_setMaster 0 [a0, a1, a2, (.ref x), a4] st bc bs hp Q ↔ Go kL_setMaster 1 [a0, a1, a2, (.ref x), a4] (.ref x :: st) bc bs hp Q := Go_next (i := .aload_n 3) rfl rfl
theorem sL_setMaster_1 : Go kL_setMaster 1 [a0, a1, a2, a3, a4] st bc bs hp Q ↔ Go kL_setMaster 2 [a0, a1, a2, a3, a4] (.int 0 :: st) bc bs hp Q := Go_next (i := .iconst 0) rfl rfl
theorem sL_setMaster_2 {x : Nat} : Go kL_setMaster 2 [(.ref x), a1, a2, a3, a4] st bc bs hp Q ↔ Go kL_setMaster 3 [(.ref x), a1, a2, a3, a4] (.ref x :: st) bc bs hp Q := Go_next (i := .aload_n 0) rfl rfl
theorem sL_setMaster_3 {x : Int32} : Go kL_setMaster 3 [a0, (.int x), a2, a3, a4] st bc bs hp Q ↔ Go kL_setMaster 4 [a0, (.int x), a2, a3, a4] (.int x :: st) bc bs hp Q := Go_next (i := .iload_n 1) rfl rfl
theorem sL_setMaster_4 {x : Int32} : Go kL_setMaster 4 [a0, a1, (.int x), a3, a4] st bc bs hp Q ↔ Go kL_setMaster 5 [a0, a1, (.int x), a3, a4] (.int x :: st) bc bs hp Q := Go_next (i := .iload_n 2) rfl rfl
theorem sL_setMaster_5 {p0 : Int32} {p1 : Int32} {x : Nat} : Go kL_setMaster 5 [a0, a1, a2, a3, a4] (.int p1 :: .int p0 :: .ref x :: st) bc bs hp Q ↔ Rcv hp x 7 ∧ (2 ≤ bc ∧ 12 ≤ bs ∧ nsum st ≤ 8) ∧ Call kX7_setMaster [.ref x, .int p0, .int p1] hp (AftH kL_setMaster 8 5 [a0, a1, a2, a3, a4] st (bc - 2) (bs - 12) Q) := Go_invVH rfl rfl rfl rfl rfl rfl rfl rfl rfl rfl
theorem sL_setMaster_8 {x : Int32} : Go kL_setMaster 8 [a0, a1, a2, a3, a4] (.int x :: st) bc bs hp Q ↔ Go kL_setMaster 9 [a0, a1, a2, a3, a4] (.long x.toInt64 :: st) bc bs hp Q := Go_next (i := .i2l) rfl rfl
theorem sL_setMaster_9 {x : Nat} {i : Int32} {y : Int64} : Go kL_setMaster 9 [a0, a1, a2, a3, a4] (.long y :: .int i :: .ref x :: st) bc bs hp Q ↔ WrL hp x i y (fun hp => Go kL_setMaster 10 [a0, a1, a2, a3, a4] st bc bs hp Q) := Go_last rfl
theorem sL_setMaster_10 : Go kL_setMaster 10 [a0, a1, a2, a3, a4] st bc bs hp Q ↔ Go kL_setMaster 21 [a0, a1, a2, a3, a4] st bc bs hp Q := Go_next (i := .goto 11) rfl rfl
theorem sL_setMaster_15 : Go kL_setMaster 15 [a0, a1, a2, a3, a4] st bc bs hp Q ↔ Go kL_setMaster 16 [a0, a1, a2, a3, a4] (.int 1 :: st) bc bs hp Q := Go_next (i := .iconst 1) rfl rfl
theorem sL_setMaster_16 {x : Int32} : Go kL_setMaster 16 [a0, a1, a2, a3, a4] [.int x] bc bs hp Q ↔ Q (.inl (some (.int x))) hp := Go_ret (i := .ireturn) rfl rfl
theorem sL_setMaster_19 : Go kL_setMaster 19 [a0, a1, a2, a3, a4] st bc bs hp Q ↔ Go kL_setMaster 20 [a0, a1, a2, a3, a4] (.int 2 :: st) bc bs hp Q := Go_next (i := .iconst 2) rfl rfl
theorem sL_setMaster_20 {x : Int32} : Go kL_setMaster 20 [a0, a1, a2, a3, a4] [.int x] bc bs hp Q ↔ Q (.inl (some (.int x))) hp := Go_ret (i := .ireturn) rfl rfl
theorem sL_setMaster_21 : Go kL_setMaster 21 [a0, a1, a2, a3, a4] st bc bs hp Q ↔ Go kL_setMaster 22 [a0, a1, a2, a3, a4] (.int 0 :: st) bc bs hp Q := Go_next (i := .iconst 0) rfl rfl
theorem sL_setMaster_22 {x : Int32} : Go kL_setMaster 22 [a0, a1, a2, a3, a4] [.int x] bc bs hp Q ↔ Q (.inl (some (.int x))) hp := Go_ret (i := .ireturn) rfl rfl
theorem sL_setPriority_0 {x : Nat} : Go kL_setPriority 0 [a0, a1, a2, (.ref x), a4] st bc bs hp Q ↔ Go kL_setPriority 1 [a0, a1, a2, (.ref x), a4] (.ref x :: st) bc bs hp Q := Go_next (i := .aload_n 3) rfl rfl
theorem sL_setPriority_1 : Go kL_setPriority 1 [a0, a1, a2, a3, a4] st bc bs hp Q ↔ Go kL_setPriority 2 [a0, a1, a2, a3, a4] (.int 0 :: st) bc bs hp Q := Go_next (i := .iconst 0) rfl rfl
theorem sL_setPriority_2 {x : Nat} : Go kL_setPriority 2 [(.ref x), a1, a2, a3, a4] st bc bs hp Q ↔ Go kL_setPriority 3 [(.ref x), a1, a2, a3, a4] (.ref x :: st) bc bs hp Q := Go_next (i := .aload_n 0) rfl rfl
theorem sL_setPriority_3 {x : Int32} : Go kL_setPriority 3 [a0, (.int x), a2, a3, a4] st bc bs hp Q ↔ Go kL_setPriority 4 [a0, (.int x), a2, a3, a4] (.int x :: st) bc bs hp Q := Go_next (i := .iload_n 1) rfl rfl
theorem sL_setPriority_4 {x : Int32} : Go kL_setPriority 4 [a0, a1, (.int x), a3, a4] st bc bs hp Q ↔ Go kL_setPriority 5 [a0, a1, (.int x), a3, a4] (.int x :: st) bc bs hp Q := Go_next (i := .iload_n 2) rfl rfl
theorem sL_setPriority_5 {p0 : Int32} {p1 : Int32} {x : Nat} : Go kL_setPriority 5 [a0, a1, a2, a3, a4] (.int p1 :: .int p0 :: .ref x :: st) bc bs hp Q ↔ Rcv hp x 7 ∧ (2 ≤ bc ∧ 12 ≤ bs ∧ nsum st ≤ 8) ∧ Call kX7_setPriority [.ref x, .int p0, .int p1] hp (AftH kL_setPriority 8 5 [a0, a1, a2, a3, a4] st (bc - 2) (bs - 12) Q) := Go_invVH rfl rfl rfl rfl rfl rfl rfl rfl rfl rfl
theorem sL_setPriority_8 {x : Int32} : Go kL_setPriority 8 [a0, a1, a2, a3, a4] (.int x :: st) bc bs hp Q ↔ Go kL_setPriority 9 [a0, a1, a2, a3, a4] (.long x.toInt64 :: st) bc bs hp Q := Go_next (i := .i2l) rfl rfl
theorem sL_setPriority_9 {x : Nat} {i : Int32} {y : Int64} : Go kL_setPriority 9 [a0, a1, a2, a3, a4] (.long y :: .int i :: .ref x :: st) bc bs hp Q ↔ WrL hp x i y (fun hp => Go kL_setPriority 10 [a0, a1, a2, a3, a4] st bc bs hp Q) := Go_last rfl
theorem sL_setPriority_10 : Go kL_setPriority 10 [a0, a1, a2, a3, a4] st bc bs hp Q ↔ Go kL_setPriority 21 [a0, a1, a2, a3, a4] st bc bs hp Q := Go_next (i := .goto 11) rfl rfl
theorem sL_setPriority_15 : Go kL_setPriority 15 [a0, a1, a2, a3, a4] st bc bs hp Q ↔ Go kL_setPriority 16 [a0, a1, a2, a3, a4] (.int 1 :: st) bc bs hp Q := Go_next (i := .iconst 1) rfl rfl
theorem sL_setPriority_16 {x : Int32} : Go kL_setPriority 16 [a0, a1, a2, a3, a4] [.int x] bc bs hp Q ↔ Q (.inl (some (.int x))) hp := Go_ret (i := .ireturn) rfl rfl
theorem sL_setPriority_19 : Go kL_setPriority 19 [a0, a1, a2, a3, a4] st bc bs hp Q ↔ Go kL_setPriority 20 [a0, a1, a2, a3, a4] (.int 2 :: st) bc bs hp Q := Go_next (i := .iconst 2) rfl rfl
theorem sL_setPriority_20 {x : Int32} : Go kL_setPriority 20 [a0, a1, a2, a3, a4] [.int x] bc bs hp Q ↔ Q (.inl (some (.int x))) hp := Go_ret (i := .ireturn) rfl rfl
theorem sL_setPriority_21 : Go kL_setPriority 21 [a0, a1, a2, a3, a4] st bc bs hp Q ↔ Go kL_setPriority 22 [a0, a1, a2, a3, a4] (.int 0 :: st) bc bs hp Q := Go_next (i := .iconst 0) rfl rfl
theorem sL_setPriority_22 {x : Int32} : Go kL_setPriority 22 [a0, a1, a2, a3, a4] [.int x] bc bs hp Q ↔ Q (.inl (some (.int x))) hp := Go_ret (i := .ireturn) rfl rfl
theorem sL_go_0 {x : Nat} : Go kL_go 0 [a0, a1, (.ref x), a3] st bc bs hp Q ↔ Go kL_go 1 [a0, a1, (.ref x), a3] (.ref x :: st) bc bs hp Q := Go_next (i := .aload_n 2) rfl rfl
theorem sL_go_1 : Go kL_go 1 [a0, a1, a2, a3] st bc bs hp Q ↔ Go kL_go 2 [a0, a1, a2, a3] (.int 0 :: st) bc bs hp Q := Go_next (i := .iconst 0) rfl rfl
theorem sL_go_2 {x : Nat} : Go kL_go 2 [(.ref x), a1, a2, a3] st bc bs hp Q ↔ Go kL_go 3 [(.ref x), a1, a2, a3] (.ref x :: st) bc bs hp Q := Go_next (i := .aload_n 0) rfl rfl
theorem sL_go_3 {x : Int32} : Go kL_go 3 [a0, (.int x), a2, a3] st bc bs hp Q ↔ Go kL_go 4 [a0, (.int x), a2, a3] (.int x :: st) bc bs hp Q := Go_next (i := .iload_n 1) rfl rfl
theorem sL_go_4 {p0 : Int32} {x : Nat} : Go kL_go 4 [a0, a1, a2, a3] (.int p0 :: .ref x :: st) bc bs hp Q ↔ Rcv hp x 7 ∧ (2 ≤ bc ∧ 12 ≤ bs ∧ nsum st ≤ 8) ∧ Call kX7_go [.ref x, .int p0] hp (AftH kL_go 7 4 [a0, a1, a2, a3] st (bc - 2) (bs - 12) Q) := Go_invVH rfl rfl rfl rfl rfl rfl rfl rfl rfl rfl
theorem sL_go_7 {x : Int32} : Go kL_go 7 [a0, a1, a2, a3] (.int x :: st) bc bs hp Q ↔ Go kL_go 8 [a0, a1, a2, a3] (.long x.toInt64 :: st) bc bs hp Q := Go_next (i := .i2l) rfl rfl
theorem sL_go_8 {x : Nat} {i : Int32} {y : Int64} : Go kL_go 8 [a0, a1, a2, a3] (.long y :: .int i :: .ref x :: st) bc bs hp Q ↔ WrL hp x i y (fun hp => Go kL_go 9 [a0, a1, a2, a3] st bc bs hp Q) := Go_last rfl
theorem sL_go_9 : Go kL_go 9 [a0, a1, a2, a3] st bc bs hp Q ↔ Go kL_go 18 [a0, a1, a2, a3] st bc bs hp Q := Go_next (i := .goto 9) rfl rfl
theorem sL_go_13 : Go kL_go 13 [a0, a1, a2, a3] st bc bs hp Q ↔ Go kL_go 14 [a0, a1, a2, a3] (.int 1 :: st) bc bs hp Q := Go_next (i := .iconst 1) rfl rfl
theorem sL_go_14 {x : Int32} : Go kL_go 14 [a0, a1, a2, a3] [.int x] bc bs hp Q ↔ Q (.inl (some (.int x))) hp := Go_ret (i := .ireturn) rfl rfl
theorem sL_go_16 : Go kL_go 16 [a0, a1, a2, a3] st bc bs hp Q ↔ Go kL_go 17 [a0, a1, a2, a3] (.int 2 :: st) bc bs hp Q := Go_next (i := .iconst 2) rfl rfl
theorem sL_go_17 {x : Int32} : Go kL_go 17 [a0, a1, a2, a3] [.int x] bc bs hp Q ↔ Q (.inl (some (.int x))) hp := Go_ret (i := .ireturn) rfl rfl
theorem sL_go_18 : Go kL_go 18 [a0, a1, a2, a3] st bc bs hp Q ↔ Go kL_go 19 [a0, a1, a2, a3] (.int 0 :: st) bc bs hp Q := Go_next (i := .iconst 0) rfl rfl
theorem sL_go_19 {x : Int32} : Go kL_go 19 [a0, a1, a2, a3] [.int x] bc bs hp Q ↔ Q (.inl (some (.int x))) hp := Go_ret (i := .ireturn) rfl rfl
theorem sL_goTo_0 {x : Nat} : Go kL_goTo 0 [a0, a1, a2, (.ref x), a4] st bc bs hp Q ↔ Go kL_goTo 1 [a0, a1, a2, (.ref x), a4] (.ref x :: st) bc bs hp Q := Go_next (i := .aload_n 3) rfl rfl
theorem sL_goTo_1 : Go kL_goTo 1 [a0, a1, a2, a3, a4] st bc bs hp Q ↔ Go kL_goTo 2 [a0, a1, a2, a3, a4] (.int 0 :: st) bc bs hp Q := Go_next (i := .iconst 0) rfl rfl
theorem sL_goTo_2 {x : Nat} : Go kL_goTo 2 [(.ref x), a1, a2, a3, a4] st bc bs hp Q ↔ Go kL_goTo 3 [(.ref x), a1, a2, a3, a4] (.ref x :: st) bc bs hp Q := Go_next (i := .aload_n 0) rfl rfl
theorem sL_goTo_3 {x : Int32} : Go kL_goTo 3 [a0, (.int x), a2, a3, a4] st bc bs hp Q ↔ Go kL_goTo 4 [a0, (.int x), a2, a3, a4] (.int x :: st) bc bs hp Q := Go_next (i := .iload_n 1) rfl rfl
theorem sL_goTo_4 {x : Int32} : Go kL_goTo 4 [a0, a1, (.int x), a3, a4] st bc bs hp Q ↔ Go kL_goTo 5 [a0, a1, (.int x), a3, a4] (.int x :: st) bc bs hp Q := Go_next (i := .iload_n 2) rfl rfl
theorem sL_goTo_5 {p0 : Int32} {p1 : Int32} {x : Nat} : Go kL_goTo 5 [a0, a1, a2, a3, a4] (.int p1 :: .int p0 :: .ref x :: st) bc bs hp Q ↔ Rcv hp x 7 ∧ (2 ≤ bc ∧ 12 ≤ bs ∧ nsum st ≤ 8) ∧ Call kX7_goTo [.ref x, .int p0, .int p1] hp (AftH kL_goTo 8 5 [a0, a1, a2, a3, a4] st (bc - 2) (bs - 12) Q) := Go_invVH rfl rfl rfl rfl rfl rfl rfl rfl rfl rfl
theorem sL_goTo_8 {x : Int32} : Go kL_goTo 8 [a0, a1, a2, a3, a4] (.int x :: st) bc bs hp Q ↔ Go kL_goTo 9 [a0, a1, a2, a3, a4] (.long x.toInt64 :: st) bc bs hp Q := Go_next (i := .i2l) rfl rfl
theorem sL_goTo_9 {x : Nat} {i : Int32} {y : Int64} : Go kL_goTo 9 [a0, a1, a2, a3, a4] (.long y :: .int i :: .ref x :: st) bc bs hp Q ↔ WrL hp x i y (fun hp => Go kL_goTo 10 [a0, a1, a2, a3, a4] st bc bs hp Q) := Go_last rfl
theorem sL_goTo_10 : Go kL_goTo 10 [a0, a1, a2, a3, a4] st bc bs hp Q ↔ Go kL_goTo 17 [a0, a1, a2, a3, a4] st bc bs hp Q := Go_next (i := .goto 7) rfl rfl
theorem sL_goTo_15 : Go kL_goTo 15 [a0, a1, a2, a3, a4] st bc bs hp Q ↔ Go kL_goTo 16 [a0, a1, a2, a3, a4] (.int 1 :: st) bc bs hp Q := Go_next (i := .iconst 1) rfl rfl
theorem sL_goTo_16 {x : Int32} : Go kL_goTo 16 [a0, a1, a2, a3, a4] [.int x] bc bs hp Q ↔ Q (.inl (some (.int x))) hp := Go_ret (i := .ireturn) rfl rfl
theorem sL_goTo_17 : Go kL_goTo 17 [a0, a1, a2, a3, a4] st bc bs hp Q ↔ Go kL_goTo 18 [a0, a1, a2, a3, a4] (.int 0 :: st) bc bs hp Q := Go_next (i := .iconst 0) rfl rfl
theorem sL_goTo_18 {x : Int32} : Go kL_goTo 18 [a0, a1, a2, a3, a4] [.int x] bc bs hp Q ↔ Q (.inl (some (.int x))) hp := Go_ret (i := .ireturn) rfl rfl
theorem sL_release_0 {x : Nat} : Go kL_release 0 [a0, a1, (.ref x), a3] st bc bs hp Q ↔ Go kL_release 1 [a0, a1, (.ref x), a3] (.ref x :: st) bc bs hp Q := Go_next (i := .aload_n 2) rfl rfl
theorem sL_release_1 : Go kL_release 1 [a0, a1, a2, a3] st bc bs hp Q ↔ Go kL_release 2 [a0, a1, a2, a3] (.int 0 :: st) bc bs hp Q := Go_next (i := .iconst 0) rfl rfl
theorem sL_release_2 {x : Nat} : Go kL_release 2 [(.ref x), a1, a2, a3] st bc bs hp Q ↔ Go kL_release 3 [(.ref x), a1, a2, a3] (.ref x :: st) bc bs hp Q := Go_next (i := .aload_n 0) rfl rfl
theorem sL_release_3 {x : Int32} : Go kL_release 3 [a0, (.int x), a2, a3] st bc bs hp Q ↔ Go kL_release 4 [a0, (.int x), a2, a3] (.int x :: st) bc bs hp Q := Go_next (i := .iload_n 1) rfl rfl
theorem sL_release_4 {p0 : Int32} {x : Nat} : Go kL_release 4 [a0, a1, a2, a3] (.int p0 :: .ref x :: st) bc bs hp Q ↔ Rcv hp x 7 ∧ (2 ≤ bc ∧ 12 ≤ bs ∧ nsum st ≤ 8) ∧ Call kX7_release [.ref x, .int p0] hp (AftH kL_release 7 4 [a0, a1, a2, a3] st (bc - 2) (bs - 12) Q) := Go_invVH rfl rfl rfl rfl rfl rfl rfl rfl rfl rfl
theorem sL_release_7 {x : Int32} : Go kL_release 7 [a0, a1, a2, a3] (.int x :: st) bc bs hp Q ↔ Go kL_release 8 [a0, a1, a2, a3] (.long x.toInt64 :: st) bc bs hp Q := Go_next (i := .i2l) rfl rfl
theorem sL_release_8 {x : Nat} {i : Int32} {y : Int64} : Go kL_release 8 [a0, a1, a2, a3] (.long y :: .int i :: .ref x :: st) bc bs hp Q ↔ WrL hp x i y (fun hp => Go kL_release 9 [a0, a1, a2, a3] st bc bs hp Q) := Go_last rfl
theorem sL_release_9 : Go kL_release 9 [a0, a1, a2, a3] st bc bs hp Q ↔ Go kL_release 18 [a0, a1, a2, a3] st bc bs hp Q := Go_next (i := .goto 9) rfl rfl
theorem sL_release_13 : Go kL_release 13 [a0, a1, a2, a3] st bc bs hp Q ↔ Go kL_release 14 [a0, a1, a2, a3] (.int 1 :: st) bc bs hp Q := Go_next (i := .iconst 1) rfl rfl
theorem sL_release_14 {x : Int32} : Go kL_release 14 [a0, a1, a2, a3] [.int x] bc bs hp Q ↔ Q (.inl (some (.int x))) hp := Go_ret (i := .ireturn) rfl rfl
theorem sL_release_16 : Go kL_release 16 [a0, a1, a2, a3] st bc bs hp Q ↔ Go kL_release 17 [a0, a1, a2, a3] (.int 2 :: st) bc bs hp Q := Go_next (i := .iconst 2) rfl rfl
theorem sL_release_17 {x : Int32} : Go kL_release 17 [a0, a1, a2, a3] [.int x] bc bs hp Q ↔ Q (.inl (some (.int x))) hp := Go_ret (i := .ireturn) rfl rfl
theorem sL_release_18 : Go kL_release 18 [a0, a1, a2, a3] st bc bs hp Q ↔ Go kL_release 19 [a0, a1, a2, a3] (.int 0 :: st) bc bs hp Q := Go_next (i := .iconst 0) rfl rfl
theorem sL_release_19 {x : Int32} : Go kL_release 19 [a0, a1, a2, a3] [.int x] bc bs hp Q ↔ Q (.inl (some (.int x))) hp := Go_ret (i := .ireturn) rfl rfl
theorem sL_update_0 {x : Nat} : Go kL_update 0 [a0, a1, (.ref x), a3] st bc bs hp Q ↔ Go kL_update 1 [a0, a1, (.ref x), a3] (.ref x :: st) bc bs hp Q := Go_next (i := .aload_n 2) rfl rfl
theorem sL_update_1 : Go kL_update 1 [a0, a1, a2, a3] st bc bs hp Q ↔ Go kL_update 2 [a0, a1, a2, a3] (.int 0 :: st) bc bs hp Q := Go_next (i := .iconst 0) rfl rfl
theorem sL_update_2 {x : Nat} : Go kL_update 2 [(.ref x), a1, a2, a3] st bc bs hp Q ↔ Go kL_update 3 [(.ref x), a1, a2, a3] (.ref x :: st) bc bs hp Q := Go_next (i := .aload_n 0) rfl rfl
theorem sL_update_3 {x : Int32} : Go kL_update 3 [a0, (.int x), a2, a3] st bc bs hp Q ↔ Go kL_update 4 [a0, (.int x), a2, a3] (.int x :: st) bc bs hp Q := Go_next (i := .iload_n 1) rfl rfl
theorem sL_update_4 {p0 : Int32} {x : Nat} : Go kL_update 4 [a0, a1, a2, a3] (.int p0 :: .ref x :: st) bc bs hp Q ↔ Rcv hp x 7 ∧ (2 ≤ bc ∧ 12 ≤ bs ∧ nsum st ≤ 8) ∧ Call kX7_update [.ref x, .int p0] hp (AftH kL_update 7 4 [a0, a1, a2, a3] st (bc - 2) (bs - 12) Q) := Go_invVH rfl rfl rfl rfl rfl rfl rfl rfl rfl rfl
theorem sL_update_7 {x : Int32} : Go kL_update 7 [a0, a1, a2, a3] (.int x :: st) bc bs hp Q ↔ Go kL_update 8 [a0, a1, a2, a3] (.long x.toInt64 :: st) bc bs hp Q := Go_next (i := .i2l) rfl rfl
theorem sL_update_8 {x : Nat} {i : Int32} {y : Int64} : Go kL_update 8 [a0, a1, a2, a3] (.long y :: .int i :: .ref x :: st) bc bs hp Q ↔ WrL hp x i y (fun hp => Go kL_update 9 [a0, a1, a2, a3] st bc bs hp Q) := Go_last rfl
theorem sL_update_9 : Go kL_update 9 [a0, a1, a2, a3] st bc bs hp Q ↔ Go kL_update 18 [a0, a1, a2, a3] st bc bs hp Q := Go_next (i := .goto 9) rfl rfl
theorem sL_update_13 : Go kL_update 13 [a0, a1, a2, a3] st bc bs hp Q ↔ Go kL_update 14 [a0, a1, a2, a3] (.int 1 :: st) bc bs hp Q := Go_next (i := .iconst 1) rfl rfl
theorem sL_update_14 {x : Int32} : Go kL_update 14 [a0, a1, a2, a3] [.int x] bc bs hp Q ↔ Q (.inl (some (.int x))) hp := Go_ret (i := .ireturn) rfl rfl
theorem sL_update_16 : Go kL_update 16 [a0, a1, a2, a3] st bc bs hp Q ↔ Go kL_update 17 [a0, a1, a2, a3] (.int 2 :: st) bc bs hp Q := Go_next (i := .iconst 2) rfl rfl
theorem sL_update_17 {x : Int32} : Go kL_update 17 [a0, a1, a2, a3] [.int x] bc bs hp Q ↔ Q (.inl (some (.int x))) hp := Go_ret (i := .ireturn) rfl rfl
theorem sL_update_18 : Go kL_update 18 [a0, a1, a2, a3] st bc bs hp Q ↔ Go kL_update 19 [a0, a1, a2, a3] (.int 0 :: st) bc bs hp Q := Go_next (i := .iconst 0) rfl rfl
theorem sL_update_19 {x : Int32} : Go kL_update 19 [a0, a1, a2, a3] [.int x] bc bs hp Q ↔ Q (.inl (some (.int x))) hp := Go_ret (i := .ireturn) rfl rfl
theorem sL_pass_0 {x : Nat} : Go kL_pass 0 [a0, a1, (.ref x), a3] st bc bs hp Q ↔ Go kL_pass 1 [a0, a1, (.ref x), a3] (.ref x :: st) bc bs hp Q := Go_next (i := .aload_n 2) rfl rfl
theorem sL_pass_1 : Go kL_pass 1 [a0, a1, a2, a3] st bc bs hp Q ↔ Go kL_pass 2 [a0, a1, a2, a3] (.int 0 :: st) bc bs hp Q := Go_next (i := .iconst 0) rfl rfl
theorem sL_pass_2 {x : Nat} : Go kL_pass 2 [(.ref x), a1, a2, a3] st bc bs hp Q ↔ Go kL_pass 3 [(.ref x), a1, a2, a3] (.ref x :: st) bc bs hp Q := Go_next (i := .aload_n 0) rfl rfl
theorem sL_pass_3 {x : Int32} : Go kL_pass 3 [a0, (.int x), a2, a3] st bc bs hp Q ↔ Go kL_pass 4 [a0, (.int x), a2, a3] (.int x :: st) bc bs hp Q := Go_next (i := .iload_n 1) rfl rfl
theorem sL_pass_4 {p0 : Int32} {x : Nat} : Go kL_pass 4 [a0, a1, a2, a3] (.int p0 :: .ref x :: st) bc bs hp Q ↔ Rcv hp x 7 ∧ (2 ≤ bc ∧ 12 ≤ bs ∧ nsum st ≤ 8) ∧ Call kX7_pass [.ref x, .int p0] hp (AftH kL_pass 7 4 [a0, a1, a2, a3] st (bc - 2) (bs - 12) Q) := Go_invVH rfl rfl rfl rfl rfl rfl rfl rfl rfl rfl
theorem sL_pass_7 {x : Int32} : Go kL_pass 7 [a0, a1, a2, a3] (.int x :: st) bc bs hp Q ↔ Go kL_pass 8 [a0, a1, a2, a3] (.long x.toInt64 :: st) bc bs hp Q := Go_next (i := .i2l) rfl rfl
theorem sL_pass_8 {x : Nat} {i : Int32} {y : Int64} : Go kL_pass 8 [a0, a1, a2, a3] (.long y :: .int i :: .ref x :: st) bc bs hp Q ↔ WrL hp x i y (fun hp => Go kL_pass 9 [a0, a1, a2, a3] st bc bs hp Q) := Go_last rfl
theorem sL_pass_9 : Go kL_pass 9 [a0, a1, a2, a3] st bc bs hp Q ↔ Go kL_pass 18 [a0, a1, a2, a3] st bc bs hp Q := Go_next (i := .goto 9) rfl rfl
theorem sL_pass_13 : Go kL_pass 13 [a0, a1, a2, a3] st bc bs hp Q ↔ Go kL_pass 14 [a0, a1, a2, a3] (.int 1 :: st) bc bs hp Q := Go_next (i := .iconst 1) rfl rfl
theorem sL_pass_14 {x : Int32} : Go kL_pass 14 [a0, a1, a2, a3] [.int x] bc bs hp Q ↔ Q (.inl (some (.int x))) hp := Go_ret (i := .ireturn) rfl rfl
theorem sL_pass_16 : Go kL_pass 16 [a0, a1, a2, a3] st bc bs hp Q ↔ Go kL_pass 17 [a0, a1, a2, a3] (.int 2 :: st) bc bs hp Q := Go_next (i := .iconst 2) rfl rfl
theorem sL_pass_17 {x : Int32} : Go kL_pass 17 [a0, a1, a2, a3] [.int x] bc bs hp Q ↔ Q (.inl (some (.int x))) hp := Go_ret (i := .ireturn) rfl rfl
theorem sL_pass_18 : Go kL_pass 18 [a0, a1, a2, a3] st bc bs hp Q ↔ Go kL_pass 19 [a0, a1, a2, a3] (.int 0 :: st) bc bs hp Q := Go_next (i := .iconst 0) rfl rfl
theorem sL_pass_19 {x : Int32} : Go kL_pass 19 [a0, a1, a2, a3] [.int x] bc bs hp Q ↔ Q (.inl (some (.int x))) hp := Go_ret (i := .ireturn) rfl rfl
theorem sL_code_0 {x : Nat} : Go kL_code 0 [a0, a1, (.ref x), a3] st bc bs hp Q ↔ Go kL_code 1 [a0, a1, (.ref x), a3] (.ref x :: st) bc bs hp Q := Go_next (i := .aload_n 2) rfl rfl
theorem sL_code_1 : Go kL_code 1 [a0, a1, a2, a3] st bc bs hp Q ↔ Go kL_code 2 [a0, a1, a2, a3] (.int 0 :: st) bc bs hp Q := Go_next (i := .iconst 0) rfl rfl
theorem sL_code_2 {x : Nat} : Go kL_code 2 [(.ref x), a1, a2, a3] st bc bs hp Q ↔ Go kL_code 3 [(.ref x), a1, a2, a3] (.ref x :: st) bc bs hp Q := Go_next (i := .aload_n 0) rfl rfl
theorem sL_code_3 {x : Int32} : Go kL_code 3 [a0, (.int x), a2, a3] st bc bs hp Q ↔ Go kL_code 4 [a0, (.int x), a2, a3] (.int x :: st) bc bs hp Q := Go_next (i := .iload_n 1) rfl rfl
theorem sL_code_4 {p0 : Int32} {x : Nat} : Go kL_code 4 [a0, a1, a2, a3] (.int p0 :: .ref x :: st) bc bs hp Q ↔ Rcv hp x 7 ∧ (1 ≤ bc ∧ 6 ≤ bs ∧ nsum st ≤ 8) ∧ Call kX7_code [.ref x, .int p0] hp (AftH kL_code 7 4 [a0, a1, a2, a3] st (bc - 1) (bs - 6) Q) := Go_invVH rfl rfl rfl rfl rfl rfl rfl rfl rfl rfl
theorem sL_code_7 {x : Int32} : Go kL_code 7 [a0, a1, a2, a3] (.int x :: st) bc bs hp Q ↔ Go kL_code 8 [a0, a1, a2, a3] (.long x.toInt64 :: st) bc bs hp Q := Go_next (i := .i2l) rfl rfl
theorem sL_code_8 {x : Nat} {i : Int32} {y : Int64} : Go kL_code 8 [a0, a1, a2, a3] (.long y :: .int i :: .ref x :: st) bc bs hp Q ↔ WrL hp x i y (fun hp => Go kL_code 9 [a0, a1, a2, a3] st bc bs hp Q) := Go_last rfl
theorem sL_code_9 : Go kL_code 9 [a0, a1, a2, a3] st bc bs hp Q ↔ Go kL_code 15 [a0, a1, a2, a3] st bc bs hp Q := Go_next (i := .goto 6) rfl rfl
theorem sL_code_13 : Go kL_code 13 [a0, a1, a2, a3] st bc bs hp Q ↔ Go kL_code 14 [a0, a1, a2, a3] (.int 1 :: st) bc bs hp Q := Go_next (i := .iconst 1) rfl rfl
theorem sL_code_14 {x : Int32} : Go kL_code 14 [a0, a1, a2, a3] [.int x] bc bs hp Q ↔ Q (.inl (some (.int x))) hp := Go_ret (i := .ireturn) rfl rfl
theorem sL_code_15 : Go kL_code 15 [a0, a1, a2, a3] st bc bs hp Q ↔ Go kL_code 16 [a0, a1, a2, a3] (.int 0 :: st) bc bs hp Q := Go_next (i := .iconst 0) rfl rfl
theorem sL_code_16 {x : Int32} : Go kL_code 16 [a0, a1, a2, a3] [.int x] bc bs hp Q ↔ Q (.inl (some (.int x))) hp := Go_ret (i := .ireturn) rfl rfl
theorem sL_addEffect_0 {x : Nat} : Go kL_addEffect 0 [a0, a1, a2, a3, a4, a5, a6, (.ref x), a8] st bc bs hp Q ↔ Go kL_addEffect 2 [a0, a1, a2, a3, a4, a5, a6, (.ref x), a8] (.ref x :: st) bc bs hp Q := Go_next (i := .aload 7) rfl rfl
theorem sL_addEffect_2 : Go kL_addEffect 2 [a0, a1, a2, a3, a4, a5, a6, a7, a8] st bc bs hp Q ↔ Go kL_addEffect 3 [a0, a1, a2, a3, a4, a5, a6, a7, a8] (.int 0 :: st) bc bs hp Q := Go_next (i := .iconst 0) rfl rfl
theorem sL_addEffect_3 {x : Nat} : Go kL_addEffect 3 [(.ref x), a1, a2, a3, a4, a5, a6, a7, a8] st bc bs hp Q ↔ Go kL_addEffect 4 [(.ref x), a1, a2, a3, a4, a5, a6, a7, a8] (.ref x :: st) bc bs hp Q := Go_next (i := .aload_n 0) rfl rfl
theorem sL_addEffect_4 {x : Int32} : Go kL_addEffect 4 [a0, (.int x), a2, a3, a4, a5, a6, a7, a8] st bc bs hp Q ↔ Go kL_addEffect 5 [a0, (.int x), a2, a3, a4, a5, a6, a7, a8] (.int x :: st) bc bs hp Q := Go_next (i := .iload_n 1) rfl rfl
theorem sL_addEffect_5 {x : Int32} : Go kL_addEffect 5 [a0, a1, (.int x), a3, a4, a5, a6, a7, a8] st bc bs hp Q ↔ Go kL_addEffect 6 [a0, a1, (.int x), a3, a4, a5, a6, a7, a8] (.int x :: st) bc bs hp Q := Go_next (i := .iload_n 2) rfl rfl
theorem sL_addEffect_6 {x : Int32} : Go kL_addEffect 6 [a0, a1, a2, (.int x), a4, a5, a6, a7, a8] st bc bs hp Q ↔ Go kL_addEffect 7 [a0, a1, a2, (.int x), a4, a5, a6, a7, a8] (.int x :: st) bc bs hp Q := Go_next (i := .iload_n 3) rfl rfl
theorem sL_addEffect_7 {x : Int32} : Go kL_addEffect 7 [a0, a1, a2, a3, (.int x), a5, a6, a7, a8] st bc bs hp Q ↔ Go kL_addEffect 9 [a0, a1, a2, a3, (.int x), a5, a6, a7, a8] (.int x :: st) bc bs hp Q := Go_next (i := .iload 4) rfl rfl
theorem sL_addEffect_9 {x : Int32} : Go kL_addEffect 9 [a0, a1, a2, a3, a4, (.int x), a6, a7, a8] st bc bs hp Q ↔ Go kL_addEffect 11 [a0, a1, a2, a3, a4, (.int x), a6, a7, a8] (.int x :: st) bc bs hp Q := Go_next (i := .iload 5) rfl rfl
theorem sL_addEffect_11 {x : Int32} : Go kL_addEffect 11 [a0, a1, a2, a3, a4, a5, (.int x), a7, a8] st bc bs hp Q ↔ Go kL_addEffect 13 [a0, a1, a2, a3, a4, a5, (.int x), a7, a8] (.int x :: st) bc bs hp Q := Go_next (i := .iload 6) rfl rfl
theorem sL_addEffect_13 {p0 : Int32} {p1 : Int32} {p2 : Int32} {p3 : Int32} {p4 : Int32} {p5 : Int32} {x : Nat} : Go kL_addEffect 13 [a0, a1, a2, a3, a4, a5, a6, a7, a8] (.int p5 :: .int p4 :: .int p3 :: .int p2 :: .int p1 :: .int p0 :: .ref x :: st) bc bs hp Q ↔ Rcv hp x 7 ∧ (6 ≤ bc ∧ 36 ≤ bs ∧ nsum st ≤ 8) ∧ Call kX7_addEffect [.ref x, .int p0, .int p1, .int p2, .int p3, .int p4, .int p5] hp (AftH kL_addEffect 16 13 [a0, a1, a2, a3, a4, a5, a6, a7, a8] st (bc - 6) (bs - 36) Q) := Go_invVH rfl rfl rfl rfl rfl rfl rfl rfl rfl rfl
theorem sL_addEffect_16 {x : Int32} : Go kL_addEffect 16 [a0, a1, a2, a3, a4, a5, a6, a7, a8] (.int x :: st) bc bs hp Q ↔ Go kL_addEffect 17 [a0, a1, a2, a3, a4, a5, a6, a7, a8] (.long x.toInt64 :: st) bc bs hp Q := Go_next (i := .i2l) rfl rfl
theorem sL_addEffect_17 {x : Nat} {i : Int32} {y : Int64} : Go kL_addEffect 17 [a0, a1, a2, a3, a4, a5, a6, a7, a8] (.long y :: .int i :: .ref x :: st) bc bs hp Q ↔ WrL hp x i y (fun hp => Go kL_addEffect 18 [a0, a1, a2, a3, a4, a5, a6, a7, a8] st bc bs hp Q) := Go_last rfl
theorem sL_addEffect_18 : Go kL_addEffect 18 [a0, a1, a2, a3, a4, a5, a6, a7, a8] st bc bs hp Q ↔ Go kL_addEffect 33 [a0, a1, a2, a3, a4, a5, a6, a7, a8] st bc bs hp Q := Go_next (i := .goto 15) rfl rfl
theorem sL_addEffect_23 : Go kL_addEffect 23 [a0, a1, a2, a3, a4, a5, a6, a7, a8] st bc bs hp Q ↔ Go kL_addEffect 24 [a0, a1, a2, a3, a4, a5, a6, a7, a8] (.int 1 :: st) bc bs hp Q := Go_next (i := .iconst 1) rfl rfl
theorem sL_addEffect_24 {x : Int32} : Go kL_addEffect 24 [a0, a1, a2, a3, a4, a5, a6, a7, a8] [.int x] bc bs hp Q ↔ Q (.inl (some (.int x))) hp := Go_ret (i := .ireturn) rfl rfl
theorem sL_addEffect_27 : Go kL_addEffect 27 [a0, a1, a2, a3, a4, a5, a6, a7, a8] st bc bs hp Q ↔ Go kL_addEffect 28 [a0, a1, a2, a3, a4, a5, a6, a7, a8] (.int 2 :: st) bc bs hp Q := Go_next (i := .iconst 2) rfl rfl
theorem sL_addEffect_28 {x : Int32} : Go kL_addEffect 28 [a0, a1, a2, a3, a4, a5, a6, a7, a8] [.int x] bc bs hp Q ↔ Q (.inl (some (.int x))) hp := Go_ret (i := .ireturn) rfl rfl
theorem sL_addEffect_31 : Go kL_addEffect 31 [a0, a1, a2, a3, a4, a5, a6, a7, a8] st bc bs hp Q ↔ Go kL_addEffect 32 [a0, a1, a2, a3, a4, a5, a6, a7, a8] (.int 3 :: st) bc bs hp Q := Go_next (i := .iconst 3) rfl rfl
theorem sL_addEffect_32 {x : Int32} : Go kL_addEffect 32 [a0, a1, a2, a3, a4, a5, a6, a7, a8] [.int x] bc bs hp Q ↔ Q (.inl (some (.int x))) hp := Go_ret (i := .ireturn) rfl rfl
theorem sL_addEffect_33 : Go kL_addEffect 33 [a0, a1, a2, a3, a4, a5, a6, a7, a8] st bc bs hp Q ↔ Go kL_addEffect 34 [a0, a1, a2, a3, a4, a5, a6, a7, a8] (.int 0 :: st) bc bs hp Q := Go_next (i := .iconst 0) rfl rfl
theorem sL_addEffect_34 {x : Int32} : Go kL_addEffect 34 [a0, a1, a2, a3, a4, a5, a6, a7, a8] [.int x] bc bs hp Q ↔ Q (.inl (some (.int x))) hp := Go_ret (i := .ireturn) rfl rfl
theorem sL_start_0 {x : Nat} : Go kL_start 0 [a0, a1, (.ref x), a3] st bc bs hp Q ↔ Go kL_start 1 [a0, a1, (.ref x), a3] (.ref x :: st) bc bs hp Q := Go_next (i := .aload_n 2) rfl rfl
theorem sL_start_1 : Go kL_start 1 [a0, a1, a2, a3] st bc bs hp Q ↔ Go kL_start 2 [a0, a1, a2, a3] (.int 0 :: st) bc bs hp Q := Go_next (i := .iconst 0) rfl rfl
theorem sL_start_2 {x : Nat} : Go kL_start 2 [(.ref x), a1, a2, a3] st bc bs hp Q ↔ Go kL_start 3 [(.ref x), a1, a2, a3] (.ref x :: st) bc bs hp Q := Go_next (i := .aload_n 0) rfl rfl
theorem sL_start_3 {x : Int32} : Go kL_start 3 [a0, (.int x), a2, a3] st bc bs hp Q ↔ Go kL_start 4 [a0, (.int x), a2, a3] (.int x :: st) bc bs hp Q := Go_next (i := .iload_n 1) rfl rfl
theorem sL_start_4 {p0 : Int32} {x : Nat} : Go kL_start 4 [a0, a1, a2, a3] (.int p0 :: .ref x :: st) bc bs hp Q ↔ Rcv hp x 7 ∧ (2 ≤ bc ∧ 12 ≤ bs ∧ nsum st ≤ 8) ∧ Call kX7_start [.ref x, .int p0] hp (AftH kL_start 7 4 [a0, a1, a2, a3] st (bc - 2) (bs - 12) Q) := Go_invVH rfl rfl rfl rfl rfl rfl rfl rfl rfl rfl
theorem sL_start_7 {x : Int32} : Go kL_start 7 [a0, a1, a2, a3] (.int x :: st) bc bs hp Q ↔ Go kL_start 8 [a0, a1, a2, a3] (.long x.toInt64 :: st) bc bs hp Q := Go_next (i := .i2l) rfl rfl
theorem sL_start_8 {x : Nat} {i : Int32} {y : Int64} : Go kL_start 8 [a0, a1, a2, a3] (.long y :: .int i :: .ref x :: st) bc bs hp Q ↔ WrL hp x i y (fun hp => Go kL_start 9 [a0, a1, a2, a3] st bc bs hp Q) := Go_last rfl
theorem sL_start_9 : Go kL_start 9 [a0, a1, a2, a3] st bc bs hp Q ↔ Go kL_start 18 [a0, a1, a2, a3] st bc bs hp Q := Go_next (i := .goto 9) rfl rfl
theorem sL_start_13 : Go kL_start 13 [a0, a1, a2, a3] st bc bs hp Q ↔ Go kL_start 14 [a0, a1, a2, a3] (.int 1 :: st) bc bs hp Q := Go_next (i := .iconst 1) rfl rfl
theorem sL_start_14 {x : Int32} : Go kL_start 14 [a0, a1, a2, a3] [.int x] bc bs hp Q ↔ Q (.inl (some (.int x))) hp := Go_ret (i := .ireturn) rfl rfl
theorem sL_start_16 : Go kL_start 16 [a0, a1, a2, a3] st bc bs hp Q ↔ Go kL_start 17 [a0, a1, a2, a3] (.int 2 :: st) bc bs hp Q := Go_next (i := .iconst 2) rfl rfl
theorem sL_start_17 {x : Int32} : Go kL_start 17 [a0, a1, a2, a3] [.int x] bc bs hp Q ↔ Q (.inl (some (.int x))) hp := Go_ret (i := .ireturn) rfl rfl
theorem sL_start_18 : Go kL_start 18 [a0, a1, a2, a3] st bc bs hp Q ↔ Go kL_start 19 [a0, a1, a2, a3] (.int 0 :: st) bc bs hp Q := Go_next (i := .iconst 0) rfl rfl
theorem sL_start_19 {x : Int32} : Go kL_start 19 [a0, a1, a2, a3] [.int x] bc bs hp Q ↔ Q (.inl (some (.int x))) hp := Go_ret (i := .ireturn) rfl rfl
theorem sL_stop_0 {x : Nat} : Go kL_stop 0 [a0, a1, (.ref x), a3] st bc bs hp Q ↔ Go kL_stop 1 [a0, a1, (.ref x), a3] (.ref x :: st) bc bs hp Q := Go_next (i := .aload_n 2) rfl rfl
theorem sL_stop_1 : Go kL_stop 1 [a0, a1, a2, a3] st bc bs hp Q ↔ Go kL_stop 2 [a0, a1, a2, a3] (.int 0 :: st) bc bs hp Q := Go_next (i := .iconst 0) rfl rfl
theorem sL_stop_2 {x : Nat} : Go kL_stop 2 [(.ref x), a1, a2, a3] st bc bs hp Q ↔ Go kL_stop 3 [(.ref x), a1, a2, a3] (.ref x :: st) bc bs hp Q := Go_next (i := .aload_n 0) rfl rfl
theorem sL_stop_3 {x : Int32} : Go kL_stop 3 [a0, (.int x), a2, a3] st bc bs hp Q ↔ Go kL_stop 4 [a0, (.int x), a2, a3] (.int x :: st) bc bs hp Q := Go_next (i := .iload_n 1) rfl rfl
theorem sL_stop_4 {p0 : Int32} {x : Nat} : Go kL_stop 4 [a0, a1, a2, a3] (.int p0 :: .ref x :: st) bc bs hp Q ↔ Rcv hp x 7 ∧ (2 ≤ bc ∧ 12 ≤ bs ∧ nsum st ≤ 8) ∧ Call kX7_stop [.ref x, .int p0] hp (AftH kL_stop 7 4 [a0, a1, a2, a3] st (bc - 2) (bs - 12) Q) := Go_invVH rfl rfl rfl rfl rfl rfl rfl rfl rfl rfl
theorem sL_stop_7 {x : Int32} : Go kL_stop 7 [a0, a1, a2, a3] (.int x :: st) bc bs hp Q ↔ Go kL_stop 8 [a0, a1, a2, a3] (.long x.toInt64 :: st) bc bs hp Q := Go_next (i := .i2l) rfl rfl
theorem sL_stop_8 {x : Nat} {i : Int32} {y : Int64} : Go kL_stop 8 [a0, a1, a2, a3] (.long y :: .int i :: .ref x :: st) bc bs hp Q ↔ WrL hp x i y (fun hp => Go kL_stop 9 [a0, a1, a2, a3] st bc bs hp Q) := Go_last rfl
theorem sL_stop_9 : Go kL_stop 9 [a0, a1, a2, a3] st bc bs hp Q ↔ Go kL_stop 18 [a0, a1, a2, a3] st bc bs hp Q := Go_next (i := .goto 9) rfl rfl
theorem sL_stop_13 : Go kL_stop 13 [a0, a1, a2, a3] st bc bs hp Q ↔ Go kL_stop 14 [a0, a1, a2, a3] (.int 1 :: st) bc bs hp Q := Go_next (i := .iconst 1) rfl rfl
theorem sL_stop_14 {x : Int32} : Go kL_stop 14 [a0, a1, a2, a3] [.int x] bc bs hp Q ↔ Q (.inl (some (.int x))) hp := Go_ret (i := .ireturn) rfl rfl
theorem sL_stop_16 : Go kL_stop 16 [a0, a1, a2, a3] st bc bs hp Q ↔ Go kL_stop 17 [a0, a1, a2, a3] (.int 2 :: st) bc bs hp Q := Go_next (i := .iconst 2) rfl rfl
theorem sL_stop_17 {x : Int32} : Go kL_stop 17 [a0, a1, a2, a3] [.int x] bc bs hp Q ↔ Q (.inl (some (.int x))) hp := Go_ret (i := .ireturn) rfl rfl
theorem sL_stop_18 : Go kL_stop 18 [a0, a1, a2, a3] st bc bs hp Q ↔ Go kL_stop 19 [a0, a1, a2, a3] (.int 0 :: st) bc bs hp Q := Go_next (i := .iconst 0) rfl rfl
theorem sL_stop_19 {x : Int32} : Go kL_stop 19 [a0, a1, a2, a3] [.int x] bc bs hp Q ↔ Q (.inl (some (.int x))) hp := Go_ret (i := .ireturn) rfl rfl
theorem sL_output_0 {x : Nat} : Go kL_output 0 [a0, a1, a2, (.ref x), a4] st bc bs hp Q ↔ Go kL_output 1 [a0, a1, a2, (.ref x), a4] (.ref x :: st) bc bs hp Q := Go_next (i := .aload_n 3) rfl rfl
theorem sL_output_1 : Go kL_output 1 [a0, a1, a2, a3, a4] st bc bs hp Q ↔ Go kL_output 2 [a0, a1, a2, a3, a4] (.int 0 :: st) bc bs hp Q := Go_next (i := .iconst 0) rfl rfl
theorem sL_output_2 {x : Nat} : Go kL_output 2 [(.ref x), a1, a2, a3, a4] st bc bs hp Q ↔ Go kL_output 3 [(.ref x), a1, a2, a3, a4] (.ref x :: st) bc bs hp Q := Go_next (i := .aload_n 0) rfl rfl
theorem sL_output_3 {x : Int32} : Go kL_output 3 [a0, (.int x), a2, a3, a4] st bc bs hp Q ↔ Go kL_output 4 [a0, (.int x), a2, a3, a4] (.int x :: st) bc bs hp Q := Go_next (i := .iload_n 1) rfl rfl
theorem sL_output_4 {x : Int32} : Go kL_output 4 [a0, a1, (.int x), a3, a4] st bc bs hp Q ↔ Go kL_output 5 [a0, a1, (.int x), a3, a4] (.int x :: st) bc bs hp Q := Go_next (i := .iload_n 2) rfl rfl
theorem sL_output_5 {p0 : Int32} {p1 : Int32} {x : Nat} : Go kL_output 5 [a0, a1, a2, a3, a4] (.int p1 :: .int p0 :: .ref x :: st) bc bs hp Q ↔ Rcv hp x 7 ∧ (2 ≤ bc ∧ 12 ≤ bs ∧ nsum st ≤ 8) ∧ Call kX7_output [.ref x, .int p0, .int p1] hp (AftH kL_output 8 5 [a0, a1, a2, a3, a4] st (bc - 2) (bs - 12) Q) := Go_invVH rfl rfl rfl rfl rfl rfl rfl rfl rfl rfl
theorem sL_output_8 {x : Int32} : Go kL_output 8 [a0, a1, a2, a3, a4] (.int x :: st) bc bs hp Q ↔ Go kL_output 9 [a0, a1, a2, a3, a4] (.long x.toInt64 :: st) bc bs hp Q := Go_next (i := .i2l) rfl rfl
theorem sL_output_9 {x : Nat} {i : Int32} {y : Int64} : Go kL_output 9 [a0, a1, a2, a3, a4] (.long y :: .int i :: .ref x :: st) bc bs hp Q ↔ WrL hp x i y (fun hp => Go kL_output 10 [a0, a1, a2, a3, a4] st bc bs hp Q) := Go_last rfl
theorem sL_output_10 : Go kL_output 10 [a0, a1, a2, a3, a4] st bc bs hp Q ↔ Go kL_output 21 [a0, a1, a2, a3, a4] st bc bs hp Q := Go_next (i := .goto 11) rfl rfl
theorem sL_output_15 : Go kL_output 15 [a0, a1, a2, a3, a4] st bc bs hp Q ↔ Go kL_output 16 [a0, a1, a2, a3, a4] (.int 1 :: st) bc bs hp Q := Go_next (i := .iconst 1) rfl rfl
theorem sL_output_16 {x : Int32} : Go kL_output 16 [a0, a1, a2, a3, a4] [.int x] bc bs hp Q ↔ Q (.inl (some (.int x))) hp := Go_ret (i := .ireturn) rfl rfl
theorem sL_output_19 : Go kL_output 19 [a0, a1, a2, a3, a4] st bc bs hp Q ↔ Go kL_output 20 [a0, a1, a2, a3, a4] (.int 2 :: st) bc bs hp Q := Go_next (i := .iconst 2) rfl rfl
theorem sL_output_20 {x : Int32} : Go kL_output 20 [a0, a1, a2, a3, a4] [.int x] bc bs hp Q ↔ Q (.inl (some (.int x))) hp := Go_ret (i := .ireturn) rfl rfl
theorem sL_output_21 : Go kL_output 21 [a0, a1, a2, a3, a4] st bc bs hp Q ↔ Go kL_output 22 [a0, a1, a2, a3, a4] (.int 0 :: st) bc bs hp Q := Go_next (i := .iconst 0) rfl rfl
theorem sL_output_22 {x : Int32} : Go kL_output 22 [a0, a1, a2, a3, a4] [.int x] bc bs hp Q ↔ Q (.inl (some (.int x))) hp := Go_ret (i := .ireturn) rfl rfl
theorem sL_outputBits_0 {x : Nat} : Go kL_outputBits 0 [a0, a1, a2, (.ref x), a4] st bc bs hp Q ↔ Go kL_outputBits 1 [a0, a1, a2, (.ref x), a4] (.ref x :: st) bc bs hp Q := Go_next (i := .aload_n 3) rfl rfl
theorem sL_outputBits_1 : Go kL_outputBits 1 [a0, a1, a2, a3, a4] st bc bs hp Q ↔ Go kL_outputBits 2 [a0, a1, a2, a3, a4] (.int 0 :: st) bc bs hp Q := Go_next (i := .iconst 0) rfl rfl
theorem sL_outputBits_2 {x : Nat} : Go kL_outputBits 2 [(.ref x), a1, a2, a3, a4] st bc bs hp Q ↔ Go kL_outputBits 3 [(.ref x), a1, a2, a3, a4] (.ref x :: st) bc bs hp Q := Go_next (i := .aload_n 0) rfl rfl
theorem sL_outputBits_3 {x : Int32} : Go kL_outputBits 3 [a0, (.int x), a2, a3, a4] st bc bs hp Q ↔ Go kL_outputBits 4 [a0, (.int x), a2, a3, a4] (.int x :: st) bc bs hp Q := Go_next (i := .iload_n 1) rfl rfl
theorem sL_outputBits_4 {x : Int32} : Go kL_outputBits 4 [a0, a1, (.int x), a3, a4] st bc bs hp Q ↔ Go kL_outputBits 5 [a0, a1, (.int x), a3, a4] (.int x :: st) bc bs hp Q := Go_next (i := .iload_n 2) rfl rfl
theorem sL_outputBits_5 {p0 : Int32} {p1 : Int32} {x : Nat} : Go kL_outputBits 5 [a0, a1, a2, a3, a4] (.int p1 :: .int p0 :: .ref x :: st) bc bs hp Q ↔ Rcv hp x 7 ∧ (2 ≤ bc ∧ 12 ≤ bs ∧ nsum st ≤ 8) ∧ Call kX7_outputBits [.ref x, .int p0, .int p1] hp (AftH kL_outputBits 8 5 [a0, a1, a2, a3, a4] st (bc - 2) (bs - 12) Q) := Go_invVH rfl rfl rfl rfl rfl rfl rfl rfl rfl rfl
theorem sL_outputBits_8 {x : Int32} : Go kL_outputBits 8 [a0, a1, a2, a3, a4] (.int x :: st) bc bs hp Q ↔ Go kL_outputBits 9 [a0, a1, a2, a3, a4] (.long x.toInt64 :: st) bc bs hp Q := Go_next (i := .i2l) rfl rfl
theorem sL_outputBits_9 {x : Nat} {i : Int32} {y : Int64} : Go kL_outputBits 9 [a0, a1, a2, a3, a4] (.long y :: .int i :: .ref x :: st) bc bs hp Q ↔ WrL hp x i y (fun hp => Go kL_outputBits 10 [a0, a1, a2, a3, a4] st bc bs hp Q) := Go_last rfl
theorem sL_outputBits_10 : Go kL_outputBits 10 [a0, a1, a2, a3, a4] st bc bs hp Q ↔ Go kL_outputBits 21 [a0, a1, a2, a3, a4] st bc bs hp Q := Go_next (i := .goto 11) rfl rfl
theorem sL_outputBits_15 : Go kL_outputBits 15 [a0, a1, a2, a3, a4] st bc bs hp Q ↔ Go kL_outputBits 16 [a0, a1, a2, a3, a4] (.int 1 :: st) bc bs hp Q := Go_next (i := .iconst 1) rfl rfl
theorem sL_outputBits_16 {x : Int32} : Go kL_outputBits 16 [a0, a1, a2, a3, a4] [.int x] bc bs hp Q ↔ Q (.inl (some (.int x))) hp := Go_ret (i := .ireturn) rfl rfl
theorem sL_outputBits_19 : Go kL_outputBits 19 [a0, a1, a2, a3, a4] st bc bs hp Q ↔ Go kL_outputBits 20 [a0, a1, a2, a3, a4] (.int 2 :: st) bc bs hp Q := Go_next (i := .iconst 2) rfl rfl
theorem sL_outputBits_20 {x : Int32} : Go kL_outputBits 20 [a0, a1, a2, a3, a4] [.int x] bc bs hp Q ↔ Q (.inl (some (.int x))) hp := Go_ret (i := .ireturn) rfl rfl
theorem sL_outputBits_21 : Go kL_outputBits 21 [a0, a1, a2, a3, a4] st bc bs hp Q ↔ Go kL_outputBits 22 [a0, a1, a2, a3, a4] (.int 0 :: st) bc bs hp Q := Go_next (i := .iconst 0) rfl rfl
theorem sL_outputBits_22 {x : Int32} : Go kL_outputBits 22 [a0, a1, a2, a3, a4] [.int x] bc bs hp Q ↔ Q (.inl (some (.int x))) hp := Go_ret (i := .ireturn) rfl rfl
theorem sL_line_0 {x : Nat} : Go kL_line 0 [a0, a1, (.ref x), a3] st bc bs hp Q ↔ Go kL_line 1 [a0, a1, (.ref x), a3] (.ref x :: st) bc bs hp Q := Go_next (i := .aload_n 2) rfl rfl
theorem sL_line_1 : Go kL_line 1 [a0, a1, a2, a3] st bc bs hp Q ↔ Go kL_line 2 [a0, a1, a2, a3] (.int 0 :: st) bc bs hp Q := Go_next (i := .iconst 0) rfl rfl
theorem sL_line_2 {x : Nat} : Go kL_line 2 [(.ref x), a1, a2, a3] st bc bs hp Q ↔ Go kL_line 3 [(.ref x), a1, a2, a3] (.ref x :: st) bc bs hp Q := Go_next (i := .aload_n 0) rfl rfl
theorem sL_line_3 {x : Int32} : Go kL_line 3 [a0, (.int x), a2, a3] st bc bs hp Q ↔ Go kL_line 4 [a0, (.int x), a2, a3] (.int x :: st) bc bs hp Q := Go_next (i := .iload_n 1) rfl rfl
theorem sL_line_4 {p0 : Int32} {x : Nat} : Go kL_line 4 [a0, a1, a2, a3] (.int p0 :: .ref x :: st) bc bs hp Q ↔ Rcv hp x 7 ∧ (1 ≤ bc ∧ 6 ≤ bs ∧ nsum st ≤ 8) ∧ Call kX7_line [.ref x, .int p0] hp (AftH kL_line 7 4 [a0, a1, a2, a3] st (bc - 1) (bs - 6) Q) := Go_invVH rfl rfl rfl rfl rfl rfl rfl rfl rfl rfl
theorem sL_line_7 {x : Int32} : Go kL_line 7 [a0, a1, a2, a3] (.int x :: st) bc bs hp Q ↔ Go kL_line 8 [a0, a1, a2, a3] (.long x.toInt64 :: st) bc bs hp Q := Go_next (i := .i2l) rfl rfl
theorem sL_line_8 {x : Nat} {i : Int32} {y : Int64} : Go kL_line 8 [a0, a1, a2, a3] (.long y :: .int i :: .ref x :: st) bc bs hp Q ↔ WrL hp x i y (fun hp => Go kL_line 9 [a0, a1, a2, a3] st bc bs hp Q) := Go_last rfl
theorem sL_line_9 : Go kL_line 9 [a0, a1, a2, a3] st bc bs hp Q ↔ Go kL_line 15 [a0, a1, a2, a3] st bc bs hp Q := Go_next (i := .goto 6) rfl rfl
theorem sL_line_13 : Go kL_line 13 [a0, a1, a2, a3] st bc bs hp Q ↔ Go kL_line 14 [a0, a1, a2, a3] (.int 1 :: st) bc bs hp Q := Go_next (i := .iconst 1) rfl rfl
theorem sL_line_14 {x : Int32} : Go kL_line 14 [a0, a1, a2, a3] [.int x] bc bs hp Q ↔ Q (.inl (some (.int x))) hp := Go_ret (i := .ireturn) rfl rfl
theorem sL_line_15 : Go kL_line 15 [a0, a1, a2, a3] st bc bs hp Q ↔ Go kL_line 16 [a0, a1, a2, a3] (.int 0 :: st) bc bs hp Q := Go_next (i := .iconst 0) rfl rfl
theorem sL_line_16 {x : Int32} : Go kL_line 16 [a0, a1, a2, a3] [.int x] bc bs hp Q ↔ Q (.inl (some (.int x))) hp := Go_ret (i := .ireturn) rfl rfl
theorem sL_decides_0 {x : Nat} : Go kL_decides 0 [a0, a1, a2, (.ref x), a4] st bc bs hp Q ↔ Go kL_decides 1 [a0, a1, a2, (.ref x), a4] (.ref x :: st) bc bs hp Q := Go_next (i := .aload_n 3) rfl rfl
theorem sL_decides_1 : Go kL_decides 1 [a0, a1, a2, a3, a4] st bc bs hp Q ↔ Go kL_decides 2 [a0, a1, a2, a3, a4] (.int 0 :: st) bc bs hp Q := Go_next (i := .iconst 0) rfl rfl
theorem sL_decides_2 {x : Nat} : Go kL_decides 2 [(.ref x), a1, a2, a3, a4] st bc bs hp Q ↔ Go kL_decides 3 [(.ref x), a1, a2, a3, a4] (.ref x :: st) bc bs hp Q := Go_next (i := .aload_n 0) rfl rfl
theorem sL_decides_3 {x : Int32} : Go kL_decides 3 [a0, (.int x), a2, a3, a4] st bc bs hp Q ↔ Go kL_decides 4 [a0, (.int x), a2, a3, a4] (.int x :: st) bc bs hp Q := Go_next (i := .iload_n 1) rfl rfl
theorem sL_decides_4 {x : Int32} : Go kL_decides 4 [a0, a1, (.int x), a3, a4] st bc bs hp Q ↔ Go kL_decides 5 [a0, a1, (.int x), a3, a4] (.int x :: st) bc bs hp Q := Go_next (i := .iload_n 2) rfl rfl
theorem sL_decides_5 {p0 : Int32} {p1 : Int32} {x : Nat} : Go kL_decides 5 [a0, a1, a2, a3, a4] (.int p1 :: .int p0 :: .ref x :: st) bc bs hp Q ↔ Rcv hp x 7 ∧ (3 ≤ bc ∧ 18 ≤ bs ∧ nsum st ≤ 8) ∧ Call kX7_decides [.ref x, .int p0, .int p1] hp (AftH kL_decides 8 5 [a0, a1, a2, a3, a4] st (bc - 3) (bs - 18) Q) := Go_invVH rfl rfl rfl rfl rfl rfl rfl rfl rfl rfl
theorem sL_decides_8 {x : Int32} : Go kL_decides 8 [a0, a1, a2, a3, a4] (.int x :: st) bc bs hp Q ↔ Go kL_decides 9 [a0, a1, a2, a3, a4] (.long x.toInt64 :: st) bc bs hp Q := Go_next (i := .i2l) rfl rfl
theorem sL_decides_9 {x : Nat} {i : Int32} {y : Int64} : Go kL_decides 9 [a0, a1, a2, a3, a4] (.long y :: .int i :: .ref x :: st) bc bs hp Q ↔ WrL hp x i y (fun hp => Go kL_decides 10 [a0, a1, a2, a3, a4] st bc bs hp Q) := Go_last rfl
theorem sL_decides_10 : Go kL_decides 10 [a0, a1, a2, a3, a4] st bc bs hp Q ↔ Go kL_decides 25 [a0, a1, a2, a3, a4] st bc bs hp Q := Go_next (i := .goto 15) rfl rfl
theorem sL_decides_15 : Go kL_decides 15 [a0, a1, a2, a3, a4] st bc bs hp Q ↔ Go kL_decides 16 [a0, a1, a2, a3, a4] (.int 1 :: st) bc bs hp Q := Go_next (i := .iconst 1) rfl rfl
theorem sL_decides_16 {x : Int32} : Go kL_decides 16 [a0, a1, a2, a3, a4] [.int x] bc bs hp Q ↔ Q (.inl (some (.int x))) hp := Go_ret (i := .ireturn) rfl rfl
theorem sL_decides_19 : Go kL_decides 19 [a0, a1, a2, a3, a4] st bc bs hp Q ↔ Go kL_decides 20 [a0, a1, a2, a3, a4] (.int 2 :: st) bc bs hp Q := Go_next (i := .iconst 2) rfl rfl
theorem sL_decides_20 {x : Int32} : Go kL_decides 20 [a0, a1, a2, a3, a4] [.int x] bc bs hp Q ↔ Q (.inl (some (.int x))) hp := Go_ret (i := .ireturn) rfl rfl
theorem sL_decides_23 : Go kL_decides 23 [a0, a1, a2, a3, a4] st bc bs hp Q ↔ Go kL_decides 24 [a0, a1, a2, a3, a4] (.int 3 :: st) bc bs hp Q := Go_next (i := .iconst 3) rfl rfl
theorem sL_decides_24 {x : Int32} : Go kL_decides 24 [a0, a1, a2, a3, a4] [.int x] bc bs hp Q ↔ Q (.inl (some (.int x))) hp := Go_ret (i := .ireturn) rfl rfl
theorem sL_decides_25 : Go kL_decides 25 [a0, a1, a2, a3, a4] st bc bs hp Q ↔ Go kL_decides 26 [a0, a1, a2, a3, a4] (.int 0 :: st) bc bs hp Q := Go_next (i := .iconst 0) rfl rfl
theorem sL_decides_26 {x : Int32} : Go kL_decides 26 [a0, a1, a2, a3, a4] [.int x] bc bs hp Q ↔ Q (.inl (some (.int x))) hp := Go_ret (i := .ireturn) rfl rfl
theorem sL_valueIn_0 {x : Nat} : Go kL_valueIn 0 [a0, a1, a2, a3, (.ref x), a5] st bc bs hp Q ↔ Go kL_valueIn 2 [a0, a1, a2, a3, (.ref x), a5] (.ref x :: st) bc bs hp Q := Go_next (i := .aload 4) rfl rfl
theorem sL_valueIn_2 : Go kL_valueIn 2 [a0, a1, a2, a3, a4, a5] st bc bs hp Q ↔ Go kL_valueIn 3 [a0, a1, a2, a3, a4, a5] (.int 0 :: st) bc bs hp Q := Go_next (i := .iconst 0) rfl rfl
theorem sL_valueIn_3 {x : Nat} : Go kL_valueIn 3 [(.ref x), a1, a2, a3, a4, a5] st bc bs hp Q ↔ Go kL_valueIn 4 [(.ref x), a1, a2, a3, a4, a5] (.ref x :: st) bc bs hp Q := Go_next (i := .aload_n 0) rfl rfl
theorem sL_valueIn_4 {x : Int32} : Go kL_valueIn 4 [a0, (.int x), a2, a3, a4, a5] st bc bs hp Q ↔ Go kL_valueIn 5 [a0, (.int x), a2, a3, a4, a5] (.int x :: st) bc bs hp Q := Go_next (i := .iload_n 1) rfl rfl
theorem sL_valueIn_5 {x : Int32} : Go kL_valueIn 5 [a0, a1, (.int x), a3, a4, a5] st bc bs hp Q ↔ Go kL_valueIn 6 [a0, a1, (.int x), a3, a4, a5] (.int x :: st) bc bs hp Q := Go_next (i := .iload_n 2) rfl rfl
theorem sL_valueIn_6 {x : Int32} : Go kL_valueIn 6 [a0, a1, a2, (.int x), a4, a5] st bc bs hp Q ↔ Go kL_valueIn 7 [a0, a1, a2, (.int x), a4, a5] (.int x :: st) bc bs hp Q := Go_next (i := .iload_n 3) rfl rfl
theorem sL_valueIn_7 {p0 : Int32} {p1 : Int32} {p2 : Int32} {x : Nat} : Go kL_valueIn 7 [a0, a1, a2, a3, a4, a5] (.int p2 :: .int p1 :: .int p0 :: .ref x :: st) bc bs hp Q ↔ Rcv hp x 7 ∧ (4 ≤ bc ∧ 24 ≤ bs ∧ nsum st ≤ 8) ∧ Call kX7_valueIn [.ref x, .int p0, .int p1, .int p2] hp (AftH kL_valueIn 10 7 [a0, a1, a2, a3, a4, a5] st (bc - 4) (bs - 24) Q) := Go_invVH rfl rfl rfl rfl rfl rfl rfl rfl rfl rfl
theorem sL_valueIn_10 {x : Int32} : Go kL_valueIn 10 [a0, a1, a2, a3, a4, a5] (.int x :: st) bc bs hp Q ↔ Go kL_valueIn 11 [a0, a1, a2, a3, a4, a5] (.long x.toInt64 :: st) bc bs hp Q := Go_next (i := .i2l) rfl rfl
theorem sL_valueIn_11 {x : Nat} {i : Int32} {y : Int64} : Go kL_valueIn 11 [a0, a1, a2, a3, a4, a5] (.long y :: .int i :: .ref x :: st) bc bs hp Q ↔ WrL hp x i y (fun hp => Go kL_valueIn 12 [a0, a1, a2, a3, a4, a5] st bc bs hp Q) := Go_last rfl
theorem sL_valueIn_12 : Go kL_valueIn 12 [a0, a1, a2, a3, a4, a5] st bc bs hp Q ↔ Go kL_valueIn 27 [a0, a1, a2, a3, a4, a5] st bc bs hp Q := Go_next (i := .goto 15) rfl rfl
theorem sL_valueIn_17 : Go kL_valueIn 17 [a0, a1, a2, a3, a4, a5] st bc bs hp Q ↔ Go kL_valueIn 18 [a0, a1, a2, a3, a4, a5] (.int 1 :: st) bc bs hp Q := Go_next (i := .iconst 1) rfl rfl
theorem sL_valueIn_18 {x : Int32} : Go kL_valueIn 18 [a0, a1, a2, a3, a4, a5] [.int x] bc bs hp Q ↔ Q (.inl (some (.int x))) hp := Go_ret (i := .ireturn) rfl rfl
theorem sL_valueIn_21 : Go kL_valueIn 21 [a0, a1, a2, a3, a4, a5] st bc bs hp Q ↔ Go kL_valueIn 22 [a0, a1, a2, a3, a4, a5] (.int 2 :: st) bc bs hp Q := Go_next (i := .iconst 2) rfl rfl
theorem sL_valueIn_22 {x : Int32} : Go kL_valueIn 22 [a0, a1, a2, a3, a4, a5] [.int x] bc bs hp Q ↔ Q (.inl (some (.int x))) hp := Go_ret (i := .ireturn) rfl rfl
theorem sL_valueIn_25 : Go kL_valueIn 25 [a0, a1, a2, a3, a4, a5] st bc bs hp Q ↔ Go kL_valueIn 26 [a0, a1, a2, a3, a4, a5] (.int 3 :: st) bc bs hp Q := Go_next (i := .iconst 3) rfl rfl
theorem sL_valueIn_26 {x : Int32} : Go kL_valueIn 26 [a0, a1, a2, a3, a4, a5] [.int x] bc bs hp Q ↔ Q (.inl (some (.int x))) hp := Go_ret (i := .ireturn) rfl rfl
theorem sL_valueIn_27 : Go kL_valueIn 27 [a0, a1, a2, a3, a4, a5] st bc bs hp Q ↔ Go kL_valueIn 28 [a0, a1, a2, a3, a4, a5] (.int 0 :: st) bc bs hp Q := Go_next (i := .iconst 0) rfl rfl
theorem sL_valueIn_28 {x : Int32} : Go kL_valueIn 28 [a0, a1, a2, a3, a4, a5] [.int x] bc bs hp Q ↔ Q (.inl (some (.int x))) hp := Go_ret (i := .ireturn) rfl rfl
theorem sL_tracked_0 {x : Nat} : Go kL_tracked 0 [a0, a1, a2, a3, a4, (.ref x), a6] st bc bs hp Q ↔ Go kL_tracked 2 [a0, a1, a2, a3, a4, (.ref x), a6] (.ref x :: st) bc bs hp Q := Go_next (i := .aload 5) rfl rfl
theorem sL_tracked_2 : Go kL_tracked 2 [a0, a1, a2, a3, a4, a5, a6] st bc bs hp Q ↔ Go kL_tracked 3 [a0, a1, a2, a3, a4, a5, a6] (.int 0 :: st) bc bs hp Q := Go_next (i := .iconst 0) rfl rfl
theorem sL_tracked_3 {x : Nat} : Go kL_tracked 3 [(.ref x), a1, a2, a3, a4, a5, a6] st bc bs hp Q ↔ Go kL_tracked 4 [(.ref x), a1, a2, a3, a4, a5, a6] (.ref x :: st) bc bs hp Q := Go_next (i := .aload_n 0) rfl rfl
theorem sL_tracked_4 {x : Int32} : Go kL_tracked 4 [a0, (.int x), a2, a3, a4, a5, a6] st bc bs hp Q ↔ Go kL_tracked 5 [a0, (.int x), a2, a3, a4, a5, a6] (.int x :: st) bc bs hp Q := Go_next (i := .iload_n 1) rfl rfl
theorem sL_tracked_5 {x : Int32} : Go kL_tracked 5 [a0, a1, (.int x), a3, a4, a5, a6] st bc bs hp Q ↔ Go kL_tracked 6 [a0, a1, (.int x), a3, a4, a5, a6] (.int x :: st) bc bs hp Q := Go_next (i := .iload_n 2) rfl rfl
theorem sL_tracked_6 {x : Int32} : Go kL_tracked 6 [a0, a1, a2, (.int x), a4, a5, a6] st bc bs hp Q ↔ Go kL_tracked 7 [a0, a1, a2, (.int x), a4, a5, a6] (.int x :: st) bc bs hp Q := Go_next (i := .iload_n 3) rfl rfl
theorem sL_tracked_7 {x : Int32} : Go kL_tracked 7 [a0, a1, a2, a3, (.int x), a5, a6] st bc bs hp Q ↔ Go kL_tracked 9 [a0, a1, a2, a3, (.int x), a5, a6] (.int x :: st) bc bs hp Q := Go_next (i := .iload 4) rfl rfl
theorem sL_tracked_9 {p0 : Int32} {p1 : Int32} {p2 : Int32} {p3 : Int32} {x : Nat} : Go kL_tracked 9 [a0, a1, a2, a3, a4, a5, a6] (.int p3 :: .int p2 :: .int p1 :: .int p0 :: .ref x :: st) bc bs hp Q ↔ Rcv hp x 7 ∧ (5 ≤ bc ∧ 30 ≤ bs ∧ nsum st ≤ 8) ∧ Call kX7_tracked [.ref x, .int p0, .int p1, .int p2, .int p3] hp (AftH kL_tracked 12 9 [a0, a1, a2, a3, a4, a5, a6] st (bc - 5) (bs - 30) Q) := Go_invVH rfl rfl rfl rfl rfl rfl rfl rfl rfl rfl
theorem sL_tracked_12 {x : Int32} : Go kL_tracked 12 [a0, a1, a2, a3, a4, a5, a6] (.int x :: st) bc bs hp Q ↔ Go kL_tracked 13 [a0, a1, a2, a3, a4, a5, a6] (.long x.toInt64 :: st) bc bs hp Q := Go_next (i := .i2l) rfl rfl
theorem sL_tracked_13 {x : Nat} {i : Int32} {y : Int64} : Go kL_tracked 13 [a0, a1, a2, a3, a4, a5, a6] (.long y :: .int i :: .ref x :: st) bc bs hp Q ↔ WrL hp x i y (fun hp => Go kL_tracked 14 [a0, a1, a2, a3, a4, a5, a6] st bc bs hp Q) := Go_last rfl
theorem sL_tracked_14 : Go kL_tracked 14 [a0, a1, a2, a3, a4, a5, a6] st bc bs hp Q ↔ Go kL_tracked 29 [a0, a1, a2, a3, a4, a5, a6] st bc bs hp Q := Go_next (i := .goto 15) rfl rfl
theorem sL_tracked_19 : Go kL_tracked 19 [a0, a1, a2, a3, a4, a5, a6] st bc bs hp Q ↔ Go kL_tracked 20 [a0, a1, a2, a3, a4, a5, a6] (.int 1 :: st) bc bs hp Q := Go_next (i := .iconst 1) rfl rfl
theorem sL_tracked_20 {x : Int32} : Go kL_tracked 20 [a0, a1, a2, a3, a4, a5, a6] [.int x] bc bs hp Q ↔ Q (.inl (some (.int x))) hp := Go_ret (i := .ireturn) rfl rfl
theorem sL_tracked_23 : Go kL_tracked 23 [a0, a1, a2, a3, a4, a5, a6] st bc bs hp Q ↔ Go kL_tracked 24 [a0, a1, a2, a3, a4, a5, a6] (.int 2 :: st) bc bs hp Q := Go_next (i := .iconst 2) rfl rfl
theorem sL_tracked_24 {x : Int32} : Go kL_tracked 24 [a0, a1, a2, a3, a4, a5, a6] [.int x] bc bs hp Q ↔ Q (.inl (some (.int x))) hp := Go_ret (i := .ireturn) rfl rfl
theorem sL_tracked_27 : Go kL_tracked 27 [a0, a1, a2, a3, a4, a5, a6] st bc bs hp Q ↔ Go kL_tracked 28 [a0, a1, a2, a3, a4, a5, a6] (.int 3 :: st) bc bs hp Q := Go_next (i := .iconst 3) rfl rfl
theorem sL_tracked_28 {x : Int32} : Go kL_tracked 28 [a0, a1, a2, a3, a4, a5, a6] [.int x] bc bs hp Q ↔ Q (.inl (some (.int x))) hp := Go_ret (i := .ireturn) rfl rfl
theorem sL_tracked_29 : Go kL_tracked 29 [a0, a1, a2, a3, a4, a5, a6] st bc bs hp Q ↔ Go kL_tracked 30 [a0, a1, a2, a3, a4, a5, a6] (.int 0 :: st) bc bs hp Q := Go_next (i := .iconst 0) rfl rfl
theorem sL_tracked_30 {x : Int32} : Go kL_tracked 30 [a0, a1, a2, a3, a4, a5, a6] [.int x] bc bs hp Q ↔ Q (.inl (some (.int x))) hp := Go_ret (i := .ireturn) rfl rfl
theorem sL_source_0 {x : Nat} : Go kL_source 0 [a0, a1, a2, a3, a4, (.ref x), a6] st bc bs hp Q ↔ Go kL_source 2 [a0, a1, a2, a3, a4, (.ref x), a6] (.ref x :: st) bc bs hp Q := Go_next (i := .aload 5) rfl rfl
theorem sL_source_2 : Go kL_source 2 [a0, a1, a2, a3, a4, a5, a6] st bc bs hp Q ↔ Go kL_source 3 [a0, a1, a2, a3, a4, a5, a6] (.int 0 :: st) bc bs hp Q := Go_next (i := .iconst 0) rfl rfl
theorem sL_source_3 {x : Nat} : Go kL_source 3 [(.ref x), a1, a2, a3, a4, a5, a6] st bc bs hp Q ↔ Go kL_source 4 [(.ref x), a1, a2, a3, a4, a5, a6] (.ref x :: st) bc bs hp Q := Go_next (i := .aload_n 0) rfl rfl
theorem sL_source_4 {x : Int32} : Go kL_source 4 [a0, (.int x), a2, a3, a4, a5, a6] st bc bs hp Q ↔ Go kL_source 5 [a0, (.int x), a2, a3, a4, a5, a6] (.int x :: st) bc bs hp Q := Go_next (i := .iload_n 1) rfl rfl
theorem sL_source_5 {x : Int32} : Go kL_source 5 [a0, a1, (.int x), a3, a4, a5, a6] st bc bs hp Q ↔ Go kL_source 6 [a0, a1, (.int x), a3, a4, a5, a6] (.int x :: st) bc bs hp Q := Go_next (i := .iload_n 2) rfl rfl
theorem sL_source_6 {x : Int32} : Go kL_source 6 [a0, a1, a2, (.int x), a4, a5, a6] st bc bs hp Q ↔ Go kL_source 7 [a0, a1, a2, (.int x), a4, a5, a6] (.int x :: st) bc bs hp Q := Go_next (i := .iload_n 3) rfl rfl
theorem sL_source_7 {x : Int32} : Go kL_source 7 [a0, a1, a2, a3, (.int x), a5, a6] st bc bs hp Q ↔ Go kL_source 9 [a0, a1, a2, a3, (.int x), a5, a6] (.int x :: st) bc bs hp Q := Go_next (i := .iload 4) rfl rfl
theorem sL_source_9 {p0 : Int32} {p1 : Int32} {p2 : Int32} {p3 : Int32} {x : Nat} : Go kL_source 9 [a0, a1, a2, a3, a4, a5, a6] (.int p3 :: .int p2 :: .int p1 :: .int p0 :: .ref x :: st) bc bs hp Q ↔ Rcv hp x 7 ∧ (5 ≤ bc ∧ 30 ≤ bs ∧ nsum st ≤ 8) ∧ Call kX7_source [.ref x, .int p0, .int p1, .int p2, .int p3] hp (AftH kL_source 12 9 [a0, a1, a2, a3, a4, a5, a6] st (bc - 5) (bs - 30) Q) := Go_invVH rfl rfl rfl rfl rfl rfl rfl rfl rfl rfl
theorem sL_source_12 {x : Int32} : Go kL_source 12 [a0, a1, a2, a3, a4, a5, a6] (.int x :: st) bc bs hp Q ↔ Go kL_source 13 [a0, a1, a2, a3, a4, a5, a6] (.long x.toInt64 :: st) bc bs hp Q := Go_next (i := .i2l) rfl rfl
theorem sL_source_13 {x : Nat} {i : Int32} {y : Int64} : Go kL_source 13 [a0, a1, a2, a3, a4, a5, a6] (.long y :: .int i :: .ref x :: st) bc bs hp Q ↔ WrL hp x i y (fun hp => Go kL_source 14 [a0, a1, a2, a3, a4, a5, a6] st bc bs hp Q) := Go_last rfl
theorem sL_source_14 : Go kL_source 14 [a0, a1, a2, a3, a4, a5, a6] st bc bs hp Q ↔ Go kL_source 29 [a0, a1, a2, a3, a4, a5, a6] st bc bs hp Q := Go_next (i := .goto 15) rfl rfl
theorem sL_source_19 : Go kL_source 19 [a0, a1, a2, a3, a4, a5, a6] st bc bs hp Q ↔ Go kL_source 20 [a0, a1, a2, a3, a4, a5, a6] (.int 1 :: st) bc bs hp Q := Go_next (i := .iconst 1) rfl rfl
theorem sL_source_20 {x : Int32} : Go kL_source 20 [a0, a1, a2, a3, a4, a5, a6] [.int x] bc bs hp Q ↔ Q (.inl (some (.int x))) hp := Go_ret (i := .ireturn) rfl rfl
theorem sL_source_23 : Go kL_source 23 [a0, a1, a2, a3, a4, a5, a6] st bc bs hp Q ↔ Go kL_source 24 [a0, a1, a2, a3, a4, a5, a6] (.int 2 :: st) bc bs hp Q := Go_next (i := .iconst 2) rfl rfl
theorem sL_source_24 {x : Int32} : Go kL_source 24 [a0, a1, a2, a3, a4, a5, a6] [.int x] bc bs hp Q ↔ Q (.inl (some (.int x))) hp := Go_ret (i := .ireturn) rfl rfl
theorem sL_source_27 : Go kL_source 27 [a0, a1, a2, a3, a4, a5, a6] st bc bs hp Q ↔ Go kL_source 28 [a0, a1, a2, a3, a4, a5, a6] (.int 3 :: st) bc bs hp Q := Go_next (i := .iconst 3) rfl rfl
theorem sL_source_28 {x : Int32} : Go kL_source 28 [a0, a1, a2, a3, a4, a5, a6] [.int x] bc bs hp Q ↔ Q (.inl (some (.int x))) hp := Go_ret (i := .ireturn) rfl rfl
theorem sL_source_29 : Go kL_source 29 [a0, a1, a2, a3, a4, a5, a6] st bc bs hp Q ↔ Go kL_source 30 [a0, a1, a2, a3, a4, a5, a6] (.int 0 :: st) bc bs hp Q := Go_next (i := .iconst 0) rfl rfl
theorem sL_source_30 {x : Int32} : Go kL_source 30 [a0, a1, a2, a3, a4, a5, a6] [.int x] bc bs hp Q ↔ Q (.inl (some (.int x))) hp := Go_ret (i := .ireturn) rfl rfl
theorem sL_paletteOf_0 {x : Nat} : Go kL_paletteOf 0 [a0, a1, a2, a3, a4, (.ref x), a6] st bc bs hp Q ↔ Go kL_paletteOf 2 [a0, a1, a2, a3, a4, (.ref x), a6] (.ref x :: st) bc bs hp Q := Go_next (i := .aload 5) rfl rfl
theorem sL_paletteOf_2 : Go kL_paletteOf 2 [a0, a1, a2, a3, a4, a5, a6] st bc bs hp Q ↔ Go kL_paletteOf 3 [a0, a1, a2, a3, a4, a5, a6] (.int 0 :: st) bc bs hp Q := Go_next (i := .iconst 0) rfl rfl
theorem sL_paletteOf_3 {x : Nat} : Go kL_paletteOf 3 [(.ref x), a1, a2, a3, a4, a5, a6] st bc bs hp Q ↔ Go kL_paletteOf 4 [(.ref x), a1, a2, a3, a4, a5, a6] (.ref x :: st) bc bs hp Q := Go_next (i := .aload_n 0) rfl rfl
theorem sL_paletteOf_4 {x : Int32} : Go kL_paletteOf 4 [a0, (.int x), a2, a3, a4, a5, a6] st bc bs hp Q ↔ Go kL_paletteOf 5 [a0, (.int x), a2, a3, a4, a5, a6] (.int x :: st) bc bs hp Q := Go_next (i := .iload_n 1) rfl rfl
theorem sL_paletteOf_5 {x : Int32} : Go kL_paletteOf 5 [a0, a1, (.int x), a3, a4, a5, a6] st bc bs hp Q ↔ Go kL_paletteOf 6 [a0, a1, (.int x), a3, a4, a5, a6] (.int x :: st) bc bs hp Q := Go_next (i := .iload_n 2) rfl rfl
theorem sL_paletteOf_6 {x : Int32} : Go kL_paletteOf 6 [a0, a1, a2, (.int x), a4, a5, a6] st bc bs hp Q ↔ Go kL_paletteOf 7 [a0, a1, a2, (.int x), a4, a5, a6] (.int x :: st) bc bs hp Q := Go_next (i := .iload_n 3) rfl rfl
theorem sL_paletteOf_7 {x : Int32} : Go kL_paletteOf 7 [a0, a1, a2, a3, (.int x), a5, a6] st bc bs hp Q ↔ Go kL_paletteOf 9 [a0, a1, a2, a3, (.int x), a5, a6] (.int x :: st) bc bs hp Q := Go_next (i := .iload 4) rfl rfl
theorem sL_paletteOf_9 {p0 : Int32} {p1 : Int32} {p2 : Int32} {p3 : Int32} {x : Nat} : Go kL_paletteOf 9 [a0, a1, a2, a3, a4, a5, a6] (.int p3 :: .int p2 :: .int p1 :: .int p0 :: .ref x :: st) bc bs hp Q ↔ Rcv hp x 7 ∧ (6 ≤ bc ∧ 36 ≤ bs ∧ nsum st ≤ 8) ∧ Call kX7_paletteOf [.ref x, .int p0, .int p1, .int p2, .int p3] hp (AftH kL_paletteOf 12 9 [a0, a1, a2, a3, a4, a5, a6] st (bc - 6) (bs - 36) Q) := Go_invVH rfl rfl rfl rfl rfl rfl rfl rfl rfl rfl
theorem sL_paletteOf_12 {x : Int32} : Go kL_paletteOf 12 [a0, a1, a2, a3, a4, a5, a6] (.int x :: st) bc bs hp Q ↔ Go kL_paletteOf 13 [a0, a1, a2, a3, a4, a5, a6] (.long x.toInt64 :: st) bc bs hp Q := Go_next (i := .i2l) rfl rfl
theorem sL_paletteOf_13 {x : Nat} {i : Int32} {y : Int64} : Go kL_paletteOf 13 [a0, a1, a2, a3, a4, a5, a6] (.long y :: .int i :: .ref x :: st) bc bs hp Q ↔ WrL hp x i y (fun hp => Go kL_paletteOf 14 [a0, a1, a2, a3, a4, a5, a6] st bc bs hp Q) := Go_last rfl
theorem sL_paletteOf_14 : Go kL_paletteOf 14 [a0, a1, a2, a3, a4, a5, a6] st bc bs hp Q ↔ Go kL_paletteOf 29 [a0, a1, a2, a3, a4, a5, a6] st bc bs hp Q := Go_next (i := .goto 15) rfl rfl
theorem sL_paletteOf_19 : Go kL_paletteOf 19 [a0, a1, a2, a3, a4, a5, a6] st bc bs hp Q ↔ Go kL_paletteOf 20 [a0, a1, a2, a3, a4, a5, a6] (.int 1 :: st) bc bs hp Q := Go_next (i := .iconst 1) rfl rfl
theorem sL_paletteOf_20 {x : Int32} : Go kL_paletteOf 20 [a0, a1, a2, a3, a4, a5, a6] [.int x] bc bs hp Q ↔ Q (.inl (some (.int x))) hp := Go_ret (i := .ireturn) rfl rfl
theorem sL_paletteOf_23 : Go kL_paletteOf 23 [a0, a1, a2, a3, a4, a5, a6] st bc bs hp Q ↔ Go kL_paletteOf 24 [a0, a1, a2, a3, a4, a5, a6] (.int 2 :: st) bc bs hp Q := Go_next (i := .iconst 2) rfl rfl
theorem sL_paletteOf_24 {x : Int32} : Go kL_paletteOf 24 [a0, a1, a2, a3, a4, a5, a6] [.int x] bc bs hp Q ↔ Q (.inl (some (.int x))) hp := Go_ret (i := .ireturn) rfl rfl
theorem sL_paletteOf_27 : Go kL_paletteOf 27 [a0, a1, a2, a3, a4, a5, a6] st bc bs hp Q ↔ Go kL_paletteOf 28 [a0, a1, a2, a3, a4, a5, a6] (.int 3 :: st) bc bs hp Q := Go_next (i := .iconst 3) rfl rfl
theorem sL_paletteOf_28 {x : Int32} : Go kL_paletteOf 28 [a0, a1, a2, a3, a4, a5, a6] [.int x] bc bs hp Q ↔ Q (.inl (some (.int x))) hp := Go_ret (i := .ireturn) rfl rfl
theorem sL_paletteOf_29 : Go kL_paletteOf 29 [a0, a1, a2, a3, a4, a5, a6] st bc bs hp Q ↔ Go kL_paletteOf 30 [a0, a1, a2, a3, a4, a5, a6] (.int 0 :: st) bc bs hp Q := Go_next (i := .iconst 0) rfl rfl
theorem sL_paletteOf_30 {x : Int32} : Go kL_paletteOf 30 [a0, a1, a2, a3, a4, a5, a6] [.int x] bc bs hp Q ↔ Q (.inl (some (.int x))) hp := Go_ret (i := .ireturn) rfl rfl
theorem sL_cueOf_0 {x : Nat} : Go kL_cueOf 0 [a0, a1, (.ref x), a3] st bc bs hp Q ↔ Go kL_cueOf 1 [a0, a1, (.ref x), a3] (.ref x :: st) bc bs hp Q := Go_next (i := .aload_n 2) rfl rfl
theorem sL_cueOf_1 : Go kL_cueOf 1 [a0, a1, a2, a3] st bc bs hp Q ↔ Go kL_cueOf 2 [a0, a1, a2, a3] (.int 0 :: st) bc bs hp Q := Go_next (i := .iconst 0) rfl rfl
theorem sL_cueOf_2 {x : Nat} : Go kL_cueOf 2 [(.ref x), a1, a2, a3] st bc bs hp Q ↔ Go kL_cueOf 3 [(.ref x), a1, a2, a3] (.ref x :: st) bc bs hp Q := Go_next (i := .aload_n 0) rfl rfl
theorem sL_cueOf_3 {x : Int32} : Go kL_cueOf 3 [a0, (.int x), a2, a3] st bc bs hp Q ↔ Go kL_cueOf 4 [a0, (.int x), a2, a3] (.int x :: st) bc bs hp Q := Go_next (i := .iload_n 1) rfl rfl
theorem sL_cueOf_4 {p0 : Int32} {x : Nat} : Go kL_cueOf 4 [a0, a1, a2, a3] (.int p0 :: .ref x :: st) bc bs hp Q ↔ Rcv hp x 7 ∧ (2 ≤ bc ∧ 12 ≤ bs ∧ nsum st ≤ 8) ∧ Call kX7_cueOf [.ref x, .int p0] hp (AftH kL_cueOf 7 4 [a0, a1, a2, a3] st (bc - 2) (bs - 12) Q) := Go_invVH rfl rfl rfl rfl rfl rfl rfl rfl rfl rfl
theorem sL_cueOf_7 {x : Int32} : Go kL_cueOf 7 [a0, a1, a2, a3] (.int x :: st) bc bs hp Q ↔ Go kL_cueOf 8 [a0, a1, a2, a3] (.long x.toInt64 :: st) bc bs hp Q := Go_next (i := .i2l) rfl rfl
theorem sL_cueOf_8 {x : Nat} {i : Int32} {y : Int64} : Go kL_cueOf 8 [a0, a1, a2, a3] (.long y :: .int i :: .ref x :: st) bc bs hp Q ↔ WrL hp x i y (fun hp => Go kL_cueOf 9 [a0, a1, a2, a3] st bc bs hp Q) := Go_last rfl
theorem sL_cueOf_9 : Go kL_cueOf 9 [a0, a1, a2, a3] st bc bs hp Q ↔ Go kL_cueOf 18 [a0, a1, a2, a3] st bc bs hp Q := Go_next (i := .goto 9) rfl rfl
theorem sL_cueOf_13 : Go kL_cueOf 13 [a0, a1, a2, a3] st bc bs hp Q ↔ Go kL_cueOf 14 [a0, a1, a2, a3] (.int 1 :: st) bc bs hp Q := Go_next (i := .iconst 1) rfl rfl
theorem sL_cueOf_14 {x : Int32} : Go kL_cueOf 14 [a0, a1, a2, a3] [.int x] bc bs hp Q ↔ Q (.inl (some (.int x))) hp := Go_ret (i := .ireturn) rfl rfl
theorem sL_cueOf_16 : Go kL_cueOf 16 [a0, a1, a2, a3] st bc bs hp Q ↔ Go kL_cueOf 17 [a0, a1, a2, a3] (.int 2 :: st) bc bs hp Q := Go_next (i := .iconst 2) rfl rfl
theorem sL_cueOf_17 {x : Int32} : Go kL_cueOf 17 [a0, a1, a2, a3] [.int x] bc bs hp Q ↔ Q (.inl (some (.int x))) hp := Go_ret (i := .ireturn) rfl rfl
theorem sL_cueOf_18 : Go kL_cueOf 18 [a0, a1, a2, a3] st bc bs hp Q ↔ Go kL_cueOf 19 [a0, a1, a2, a3] (.int 0 :: st) bc bs hp Q := Go_next (i := .iconst 0) rfl rfl
theorem sL_cueOf_19 {x : Int32} : Go kL_cueOf 19 [a0, a1, a2, a3] [.int x] bc bs hp Q ↔ Q (.inl (some (.int x))) hp := Go_ret (i := .ireturn) rfl rfl
theorem sL_cues_0 {x : Nat} : Go kL_cues 0 [a0, a1, (.ref x), a3] st bc bs hp Q ↔ Go kL_cues 1 [a0, a1, (.ref x), a3] (.ref x :: st) bc bs hp Q := Go_next (i := .aload_n 2) rfl rfl
theorem sL_cues_1 : Go kL_cues 1 [a0, a1, a2, a3] st bc bs hp Q ↔ Go kL_cues 2 [a0, a1, a2, a3] (.int 0 :: st) bc bs hp Q := Go_next (i := .iconst 0) rfl rfl
theorem sL_cues_2 {x : Nat} : Go kL_cues 2 [(.ref x), a1, a2, a3] st bc bs hp Q ↔ Go kL_cues 3 [(.ref x), a1, a2, a3] (.ref x :: st) bc bs hp Q := Go_next (i := .aload_n 0) rfl rfl
theorem sL_cues_3 {x : Int32} : Go kL_cues 3 [a0, (.int x), a2, a3] st bc bs hp Q ↔ Go kL_cues 4 [a0, (.int x), a2, a3] (.int x :: st) bc bs hp Q := Go_next (i := .iload_n 1) rfl rfl
theorem sL_cues_4 {p0 : Int32} {x : Nat} : Go kL_cues 4 [a0, a1, a2, a3] (.int p0 :: .ref x :: st) bc bs hp Q ↔ Rcv hp x 7 ∧ (1 ≤ bc ∧ 6 ≤ bs ∧ nsum st ≤ 8) ∧ Call kX7_cues [.ref x, .int p0] hp (AftH kL_cues 7 4 [a0, a1, a2, a3] st (bc - 1) (bs - 6) Q) := Go_invVH rfl rfl rfl rfl rfl rfl rfl rfl rfl rfl
theorem sL_cues_7 {x : Int32} : Go kL_cues 7 [a0, a1, a2, a3] (.int x :: st) bc bs hp Q ↔ Go kL_cues 8 [a0, a1, a2, a3] (.long x.toInt64 :: st) bc bs hp Q := Go_next (i := .i2l) rfl rfl
theorem sL_cues_8 {x : Nat} {i : Int32} {y : Int64} : Go kL_cues 8 [a0, a1, a2, a3] (.long y :: .int i :: .ref x :: st) bc bs hp Q ↔ WrL hp x i y (fun hp => Go kL_cues 9 [a0, a1, a2, a3] st bc bs hp Q) := Go_last rfl
theorem sL_cues_9 : Go kL_cues 9 [a0, a1, a2, a3] st bc bs hp Q ↔ Go kL_cues 15 [a0, a1, a2, a3] st bc bs hp Q := Go_next (i := .goto 6) rfl rfl
theorem sL_cues_13 : Go kL_cues 13 [a0, a1, a2, a3] st bc bs hp Q ↔ Go kL_cues 14 [a0, a1, a2, a3] (.int 1 :: st) bc bs hp Q := Go_next (i := .iconst 1) rfl rfl
theorem sL_cues_14 {x : Int32} : Go kL_cues 14 [a0, a1, a2, a3] [.int x] bc bs hp Q ↔ Q (.inl (some (.int x))) hp := Go_ret (i := .ireturn) rfl rfl
theorem sL_cues_15 : Go kL_cues 15 [a0, a1, a2, a3] st bc bs hp Q ↔ Go kL_cues 16 [a0, a1, a2, a3] (.int 0 :: st) bc bs hp Q := Go_next (i := .iconst 0) rfl rfl
theorem sL_cues_16 {x : Int32} : Go kL_cues 16 [a0, a1, a2, a3] [.int x] bc bs hp Q ↔ Q (.inl (some (.int x))) hp := Go_ret (i := .ireturn) rfl rfl
theorem sL_isFading_0 {x : Nat} : Go kL_isFading 0 [a0, a1, (.ref x), a3] st bc bs hp Q ↔ Go kL_isFading 1 [a0, a1, (.ref x), a3] (.ref x :: st) bc bs hp Q := Go_next (i := .aload_n 2) rfl rfl
theorem sL_isFading_1 : Go kL_isFading 1 [a0, a1, a2, a3] st bc bs hp Q ↔ Go kL_isFading 2 [a0, a1, a2, a3] (.int 0 :: st) bc bs hp Q := Go_next (i := .iconst 0) rfl rfl
theorem sL_isFading_2 {x : Nat} : Go kL_isFading 2 [(.ref x), a1, a2, a3] st bc bs hp Q ↔ Go kL_isFading 3 [(.ref x), a1, a2, a3] (.ref x :: st) bc bs hp Q := Go_next (i := .aload_n 0) rfl rfl
theorem sL_isFading_3 {x : Int32} : Go kL_isFading 3 [a0, (.int x), a2, a3] st bc bs hp Q ↔ Go kL_isFading 4 [a0, (.int x), a2, a3] (.int x :: st) bc bs hp Q := Go_next (i := .iload_n 1) rfl rfl
theorem sL_isFading_4 {p0 : Int32} {x : Nat} : Go kL_isFading 4 [a0, a1, a2, a3] (.int p0 :: .ref x :: st) bc bs hp Q ↔ Rcv hp x 7 ∧ (1 ≤ bc ∧ 6 ≤ bs ∧ nsum st ≤ 8) ∧ Call kX7_isFading [.ref x, .int p0] hp (AftH kL_isFading 7 4 [a0, a1, a2, a3] st (bc - 1) (bs - 6) Q) := Go_invVH rfl rfl rfl rfl rfl rfl rfl rfl rfl rfl
theorem sL_isFading_7 {x : Int32} : Go kL_isFading 7 [a0, a1, a2, a3] (.int x :: st) bc bs hp Q ↔ (x = 0 → Go kL_isFading 14 [a0, a1, a2, a3] st bc bs hp Q) ∧ (¬ x = 0 → Go kL_isFading 10 [a0, a1, a2, a3] st bc bs hp Q) := Go_ift (c := x = 0) (i := .ifCond .eq 7) rfl rfl
theorem sL_isFading_10 : Go kL_isFading 10 [a0, a1, a2, a3] st bc bs hp Q ↔ Go kL_isFading 11 [a0, a1, a2, a3] (.long 1 :: st) bc bs hp Q := Go_next (i := .lconst 1) rfl rfl
theorem sL_isFading_11 : Go kL_isFading 11 [a0, a1, a2, a3] st bc bs hp Q ↔ Go kL_isFading 15 [a0, a1, a2, a3] st bc bs hp Q := Go_next (i := .goto 4) rfl rfl
theorem sL_isFading_14 : Go kL_isFading 14 [a0, a1, a2, a3] st bc bs hp Q ↔ Go kL_isFading 15 [a0, a1, a2, a3] (.long 0 :: st) bc bs hp Q := Go_next (i := .lconst 0) rfl rfl
theorem sL_isFading_15 {x : Nat} {i : Int32} {y : Int64} : Go kL_isFading 15 [a0, a1, a2, a3] (.long y :: .int i :: .ref x :: st) bc bs hp Q ↔ WrL hp x i y (fun hp => Go kL_isFading 16 [a0, a1, a2, a3] st bc bs hp Q) := Go_last rfl
theorem sL_isFading_16 : Go kL_isFading 16 [a0, a1, a2, a3] st bc bs hp Q ↔ Go kL_isFading 22 [a0, a1, a2, a3] st bc bs hp Q := Go_next (i := .goto 6) rfl rfl
theorem sL_isFading_20 : Go kL_isFading 20 [a0, a1, a2, a3] st bc bs hp Q ↔ Go kL_isFading 21 [a0, a1, a2, a3] (.int 1 :: st) bc bs hp Q := Go_next (i := .iconst 1) rfl rfl
theorem sL_isFading_21 {x : Int32} : Go kL_isFading 21 [a0, a1, a2, a3] [.int x] bc bs hp Q ↔ Q (.inl (some (.int x))) hp := Go_ret (i := .ireturn) rfl rfl
theorem sL_isFading_22 : Go kL_isFading 22 [a0, a1, a2, a3] st bc bs hp Q ↔ Go kL_isFading 23 [a0, a1, a2, a3] (.int 0 :: st) bc bs hp Q := Go_next (i := .iconst 0) rfl rfl
theorem sL_isFading_23 {x : Int32} : Go kL_isFading 23 [a0, a1, a2, a3] [.int x] bc bs hp Q ↔ Q (.inl (some (.int x))) hp := Go_ret (i := .ireturn) rfl rfl
theorem sL_litShare_0 {x : Nat} : Go kL_litShare 0 [a0, (.ref x), a2] st bc bs hp Q ↔ Go kL_litShare 1 [a0, (.ref x), a2] (.ref x :: st) bc bs hp Q := Go_next (i := .aload_n 1) rfl rfl
theorem sL_litShare_1 : Go kL_litShare 1 [a0, a1, a2] st bc bs hp Q ↔ Go kL_litShare 2 [a0, a1, a2] (.int 0 :: st) bc bs hp Q := Go_next (i := .iconst 0) rfl rfl
theorem sL_litShare_2 {x : Nat} : Go kL_litShare 2 [(.ref x), a1, a2] st bc bs hp Q ↔ Go kL_litShare 3 [(.ref x), a1, a2] (.ref x :: st) bc bs hp Q := Go_next (i := .aload_n 0) rfl rfl
theorem sL_litShare_3 {x : Nat} : Go kL_litShare 3 [a0, a1, a2] (.ref x :: st) bc bs hp Q ↔ Rcv hp x 7 ∧ (1 ≤ bc ∧ 6 ≤ bs ∧ nsum st ≤ 8) ∧ Call kX7_litShare [.ref x] hp (AftH kL_litShare 6 3 [a0, a1, a2] st (bc - 1) (bs - 6) Q) := Go_invVH rfl rfl rfl rfl rfl rfl rfl rfl rfl rfl
theorem sL_litShare_6 {x : UInt32} : Go kL_litShare 6 [a0, a1, a2] (.float x :: st) bc bs hp Q ↔ nn64 (FP.f2d x) = true ∧ Go kL_litShare 7 [a0, a1, a2] (.double (FP.f2d x) :: st) bc bs hp Q := Go_on (i := .f2d) rfl rfl
theorem sL_litShare_7 {x : Nat} {i : Int32} {y : UInt64} : Go kL_litShare 7 [a0, a1, a2] (.double y :: .int i :: .ref x :: st) bc bs hp Q ↔ WrD hp x i y (fun hp => Go kL_litShare 8 [a0, a1, a2] st bc bs hp Q) := Go_dast rfl
theorem sL_litShare_8 : Go kL_litShare 8 [a0, a1, a2] st bc bs hp Q ↔ Go kL_litShare 14 [a0, a1, a2] st bc bs hp Q := Go_next (i := .goto 6) rfl rfl
theorem sL_litShare_12 : Go kL_litShare 12 [a0, a1, a2] st bc bs hp Q ↔ Go kL_litShare 13 [a0, a1, a2] (.int 1 :: st) bc bs hp Q := Go_next (i := .iconst 1) rfl rfl
theorem sL_litShare_13 {x : Int32} : Go kL_litShare 13 [a0, a1, a2] [.int x] bc bs hp Q ↔ Q (.inl (some (.int x))) hp := Go_ret (i := .ireturn) rfl rfl
theorem sL_litShare_14 : Go kL_litShare 14 [a0, a1, a2] st bc bs hp Q ↔ Go kL_litShare 15 [a0, a1, a2] (.int 0 :: st) bc bs hp Q := Go_next (i := .iconst 0) rfl rfl
theorem sL_litShare_15 {x : Int32} : Go kL_litShare 15 [a0, a1, a2] [.int x] bc bs hp Q ↔ Q (.inl (some (.int x))) hp := Go_ret (i := .ireturn) rfl rfl
theorem sL_meanStored_0 {x : Nat} : Go kL_meanStored 0 [a0, (.ref x), a2] st bc bs hp Q ↔ Go kL_meanStored 1 [a0, (.ref x), a2] (.ref x :: st) bc bs hp Q := Go_next (i := .aload_n 1) rfl rfl
theorem sL_meanStored_1 : Go kL_meanStored 1 [a0, a1, a2] st bc bs hp Q ↔ Go kL_meanStored 2 [a0, a1, a2] (.int 0 :: st) bc bs hp Q := Go_next (i := .iconst 0) rfl rfl
theorem sL_meanStored_2 {x : Nat} : Go kL_meanStored 2 [(.ref x), a1, a2] st bc bs hp Q ↔ Go kL_meanStored 3 [(.ref x), a1, a2] (.ref x :: st) bc bs hp Q := Go_next (i := .aload_n 0) rfl rfl
theorem sL_meanStored_3 {x : Nat} : Go kL_meanStored 3 [a0, a1, a2] (.ref x :: st) bc bs hp Q ↔ Rcv hp x 7 ∧ (1 ≤ bc ∧ 6 ≤ bs ∧ nsum st ≤ 8) ∧ Call kX7_meanStored [.ref x] hp (AftH kL_meanStored 6 3 [a0, a1, a2] st (bc - 1) (bs - 6) Q) := Go_invVH rfl rfl rfl rfl rfl rfl rfl rfl rfl rfl
theorem sL_meanStored_6 {x : Nat} {i : Int32} {y : UInt64} : Go kL_meanStored 6 [a0, a1, a2] (.double y :: .int i :: .ref x :: st) bc bs hp Q ↔ WrD hp x i y (fun hp => Go kL_meanStored 7 [a0, a1, a2] st bc bs hp Q) := Go_dast rfl
theorem sL_meanStored_7 : Go kL_meanStored 7 [a0, a1, a2] st bc bs hp Q ↔ Go kL_meanStored 13 [a0, a1, a2] st bc bs hp Q := Go_next (i := .goto 6) rfl rfl
theorem sL_meanStored_11 : Go kL_meanStored 11 [a0, a1, a2] st bc bs hp Q ↔ Go kL_meanStored 12 [a0, a1, a2] (.int 1 :: st) bc bs hp Q := Go_next (i := .iconst 1) rfl rfl
theorem sL_meanStored_12 {x : Int32} : Go kL_meanStored 12 [a0, a1, a2] [.int x] bc bs hp Q ↔ Q (.inl (some (.int x))) hp := Go_ret (i := .ireturn) rfl rfl
theorem sL_meanStored_13 : Go kL_meanStored 13 [a0, a1, a2] st bc bs hp Q ↔ Go kL_meanStored 14 [a0, a1, a2] (.int 0 :: st) bc bs hp Q := Go_next (i := .iconst 0) rfl rfl
theorem sL_meanStored_14 {x : Int32} : Go kL_meanStored 14 [a0, a1, a2] [.int x] bc bs hp Q ↔ Q (.inl (some (.int x))) hp := Go_ret (i := .ireturn) rfl rfl
end
