section
variable {a0 a1 a2 a3 a4 a5 a6 a7 a8 : Value} {st : List Value} {bc bs : Nat} {hp : Hp} {Q : Out → Hp → Prop}
set_option maxRecDepth 100000 in
theorem sL_law_2114 {x : Int32} : Go kL_law 2114 [a0, a1, a2, a3, a4, a5, a6, a7, a8] (.int x :: st) bc bs hp Q ↔ Go kL_law 2115 [a0, a1, a2, a3, a4, a5, a6, a7, a8] (.long x.toInt64 :: st) bc bs hp Q := Go_next (i := .i2l) rfl rfl
set_option maxRecDepth 100000 in
theorem sL_law_2115 {x y : Int64} : Go kL_law 2115 [a0, a1, a2, a3, a4, a5, a6, a7, a8] (.long y :: .long x :: st) bc bs hp Q ↔ Go kL_law 2116 [a0, a1, a2, a3, a4, a5, a6, a7, a8] (.int (lg_cmp x y) :: st) bc bs hp Q := Go_next (i := .lcmp) rfl rfl
set_option maxRecDepth 100000 in
theorem sL_law_2116 {x : Int32} : Go kL_law 2116 [a0, a1, a2, a3, a4, a5, a6, a7, a8] (.int x :: st) bc bs hp Q ↔ (x = 0 → Go kL_law 2121 [a0, a1, a2, a3, a4, a5, a6, a7, a8] st bc bs hp Q) ∧ (¬ x = 0 → Go kL_law 2119 [a0, a1, a2, a3, a4, a5, a6, a7, a8] st bc bs hp Q) := Go_ift (c := x = 0) (i := .ifCond .eq 5) rfl rfl
set_option maxRecDepth 100000 in
theorem sL_law_2119 : Go kL_law 2119 [a0, a1, a2, a3, a4, a5, a6, a7, a8] st bc bs hp Q ↔ Go kL_law 2120 [a0, a1, a2, a3, a4, a5, a6, a7, a8] (.int 0 :: st) bc bs hp Q := Go_next (i := .iconst 0) rfl rfl
set_option maxRecDepth 100000 in
theorem sL_law_2120 {x : Int32} : Go kL_law 2120 [a0, a1, a2, a3, a4, a5, a6, a7, a8] [.int x] bc bs hp Q ↔ outI kL_law x = true ∧ Q (.inl (some (.int x))) hp := Go_retIf (i := .ireturn) rfl rfl
set_option maxRecDepth 100000 in
theorem sL_law_2121 : Go kL_law 2121 [a0, a1, a2, a3, a4, a5, a6, a7, a8] st bc bs hp Q ↔ Go kL_law 3086 [a0, a1, a2, a3, a4, a5, a6, a7, a8] st bc bs hp Q := Go_next (i := .goto 965) rfl rfl
set_option maxRecDepth 100000 in
theorem sL_law_2124 {x : Nat} : Go kL_law 2124 [a0, (.ref x), a2, a3, a4, a5, a6, a7, a8] st bc bs hp Q ↔ Go kL_law 2125 [a0, (.ref x), a2, a3, a4, a5, a6, a7, a8] (.ref x :: st) bc bs hp Q := Go_next (i := .aload_n 1) rfl rfl
set_option maxRecDepth 100000 in
theorem sL_law_2125 {x : Nat} : Go kL_law 2125 [(.ref x), a1, a2, a3, a4, a5, a6, a7, a8] st bc bs hp Q ↔ Go kL_law 2126 [(.ref x), a1, a2, a3, a4, a5, a6, a7, a8] (.ref x :: st) bc bs hp Q := Go_next (i := .aload_n 0) rfl rfl
set_option maxRecDepth 100000 in
theorem sL_law_2126 {x : Int32} : Go kL_law 2126 [a0, a1, a2, a3, a4, (.int x), a6, a7, a8] st bc bs hp Q ↔ Go kL_law 2128 [a0, a1, a2, a3, a4, (.int x), a6, a7, a8] (.int x :: st) bc bs hp Q := Go_next (i := .iload 5) rfl rfl
set_option maxRecDepth 100000 in
theorem sL_law_2128 : Go kL_law 2128 [a0, a1, a2, a3, a4, a5, a6, a7, a8] st bc bs hp Q ↔ Go kL_law 2129 [a0, a1, a2, a3, a4, a5, a6, a7, a8] (.int 1 :: st) bc bs hp Q := Go_next (i := .iconst 1) rfl rfl
set_option maxRecDepth 100000 in
theorem sL_law_2129 {x y : Int32} : Go kL_law 2129 [a0, a1, a2, a3, a4, a5, a6, a7, a8] (.int y :: .int x :: st) bc bs hp Q ↔ Go kL_law 2130 [a0, a1, a2, a3, a4, a5, a6, a7, a8] (.int (x + y) :: st) bc bs hp Q := Go_next (i := .iadd) rfl rfl
set_option maxRecDepth 100000 in
theorem sL_law_2130 {x : Nat} {i : Int32} : Go kL_law 2130 [a0, a1, a2, a3, a4, a5, a6, a7, a8] (.int i :: .ref x :: st) bc bs hp Q ↔ RdA hp x 0 i (fun v => Go kL_law 2131 [a0, a1, a2, a3, a4, a5, a6, a7, a8] (.int v :: st) bc bs hp Q) := Go_iald rfl
set_option maxRecDepth 100000 in
theorem sL_law_2131 {x : Nat} : Go kL_law 2131 [(.ref x), a1, a2, a3, a4, a5, a6, a7, a8] st bc bs hp Q ↔ Go kL_law 2132 [(.ref x), a1, a2, a3, a4, a5, a6, a7, a8] (.ref x :: st) bc bs hp Q := Go_next (i := .aload_n 0) rfl rfl
set_option maxRecDepth 100000 in
theorem sL_law_2132 {x : Int32} : Go kL_law 2132 [a0, a1, a2, a3, a4, (.int x), a6, a7, a8] st bc bs hp Q ↔ Go kL_law 2134 [a0, a1, a2, a3, a4, (.int x), a6, a7, a8] (.int x :: st) bc bs hp Q := Go_next (i := .iload 5) rfl rfl
set_option maxRecDepth 100000 in
theorem sL_law_2134 : Go kL_law 2134 [a0, a1, a2, a3, a4, a5, a6, a7, a8] st bc bs hp Q ↔ Go kL_law 2135 [a0, a1, a2, a3, a4, a5, a6, a7, a8] (.int 2 :: st) bc bs hp Q := Go_next (i := .iconst 2) rfl rfl
set_option maxRecDepth 100000 in
theorem sL_law_2135 {x y : Int32} : Go kL_law 2135 [a0, a1, a2, a3, a4, a5, a6, a7, a8] (.int y :: .int x :: st) bc bs hp Q ↔ Go kL_law 2136 [a0, a1, a2, a3, a4, a5, a6, a7, a8] (.int (x + y) :: st) bc bs hp Q := Go_next (i := .iadd) rfl rfl
set_option maxRecDepth 100000 in
theorem sL_law_2136 {x : Nat} {i : Int32} : Go kL_law 2136 [a0, a1, a2, a3, a4, a5, a6, a7, a8] (.int i :: .ref x :: st) bc bs hp Q ↔ RdA hp x 0 i (fun v => Go kL_law 2137 [a0, a1, a2, a3, a4, a5, a6, a7, a8] (.int v :: st) bc bs hp Q) := Go_iald rfl
set_option maxRecDepth 100000 in
theorem sL_law_2137 {x : Nat} : Go kL_law 2137 [a0, a1, a2, (.ref x), a4, a5, a6, a7, a8] st bc bs hp Q ↔ Go kL_law 2138 [a0, a1, a2, (.ref x), a4, a5, a6, a7, a8] (.ref x :: st) bc bs hp Q := Go_next (i := .aload_n 3) rfl rfl
set_option maxRecDepth 100000 in
theorem sL_law_2138 {p0 : Nat} {p1 : Int32} {p2 : Int32} {p3 : Nat} : Go kL_law 2138 [a0, a1, a2, a3, a4, a5, a6, a7, a8] (.ref p3 :: .int p2 :: .int p1 :: .ref p0 :: st) bc bs hp Q ↔ (2 ≤ bc ∧ 12 ≤ bs ∧ nsum st ≤ 8) ∧ Call kL_output [.ref p0, .int p1, .int p2, .ref p3] hp (Aft kL_law 2141 [a0, a1, a2, a3, a4, a5, a6, a7, a8] st (bc - 2) (bs - 12) Q) := Go_inv (i := .invokestatic 252) rfl rfl rfl rfl rfl rfl
set_option maxRecDepth 100000 in
theorem sL_law_2141 {x : Int32} (hj : a5.category = 1) : Go kL_law 2141 [a0, a1, a2, a3, a4, a5, a6, a7, a8] (.int x :: st) bc bs hp Q ↔ Go kL_law 2143 [a0, a1, a2, a3, a4, a5, (.int x), a7, a8] st bc bs hp Q := Go_sto (i := .istore 6) (j := 6) (v := .int x) rfl rfl (Nat.le_of_ble_eq_true rfl) (decide_eq_true hj) rfl
set_option maxRecDepth 100000 in
theorem sL_law_2143 {x : Nat} : Go kL_law 2143 [a0, a1, (.ref x), a3, a4, a5, a6, a7, a8] st bc bs hp Q ↔ Go kL_law 2144 [a0, a1, (.ref x), a3, a4, a5, a6, a7, a8] (.ref x :: st) bc bs hp Q := Go_next (i := .aload_n 2) rfl rfl
set_option maxRecDepth 100000 in
theorem sL_law_2144 {x : Nat} : Go kL_law 2144 [(.ref x), a1, a2, a3, a4, a5, a6, a7, a8] st bc bs hp Q ↔ Go kL_law 2145 [(.ref x), a1, a2, a3, a4, a5, a6, a7, a8] (.ref x :: st) bc bs hp Q := Go_next (i := .aload_n 0) rfl rfl
set_option maxRecDepth 100000 in
theorem sL_law_2145 {x : Int32} : Go kL_law 2145 [a0, a1, a2, a3, a4, (.int x), a6, a7, a8] st bc bs hp Q ↔ Go kL_law 2147 [a0, a1, a2, a3, a4, (.int x), a6, a7, a8] (.int x :: st) bc bs hp Q := Go_next (i := .iload 5) rfl rfl
set_option maxRecDepth 100000 in
theorem sL_law_2147 : Go kL_law 2147 [a0, a1, a2, a3, a4, a5, a6, a7, a8] st bc bs hp Q ↔ Go kL_law 2148 [a0, a1, a2, a3, a4, a5, a6, a7, a8] (.int 1 :: st) bc bs hp Q := Go_next (i := .iconst 1) rfl rfl
set_option maxRecDepth 100000 in
theorem sL_law_2148 {x y : Int32} : Go kL_law 2148 [a0, a1, a2, a3, a4, a5, a6, a7, a8] (.int y :: .int x :: st) bc bs hp Q ↔ Go kL_law 2149 [a0, a1, a2, a3, a4, a5, a6, a7, a8] (.int (x + y) :: st) bc bs hp Q := Go_next (i := .iadd) rfl rfl
set_option maxRecDepth 100000 in
theorem sL_law_2149 {x : Nat} {i : Int32} : Go kL_law 2149 [a0, a1, a2, a3, a4, a5, a6, a7, a8] (.int i :: .ref x :: st) bc bs hp Q ↔ RdA hp x 0 i (fun v => Go kL_law 2150 [a0, a1, a2, a3, a4, a5, a6, a7, a8] (.int v :: st) bc bs hp Q) := Go_iald rfl
set_option maxRecDepth 100000 in
theorem sL_law_2150 {x : Nat} : Go kL_law 2150 [(.ref x), a1, a2, a3, a4, a5, a6, a7, a8] st bc bs hp Q ↔ Go kL_law 2151 [(.ref x), a1, a2, a3, a4, a5, a6, a7, a8] (.ref x :: st) bc bs hp Q := Go_next (i := .aload_n 0) rfl rfl
set_option maxRecDepth 100000 in
theorem sL_law_2151 {x : Int32} : Go kL_law 2151 [a0, a1, a2, a3, a4, (.int x), a6, a7, a8] st bc bs hp Q ↔ Go kL_law 2153 [a0, a1, a2, a3, a4, (.int x), a6, a7, a8] (.int x :: st) bc bs hp Q := Go_next (i := .iload 5) rfl rfl
set_option maxRecDepth 100000 in
theorem sL_law_2153 : Go kL_law 2153 [a0, a1, a2, a3, a4, a5, a6, a7, a8] st bc bs hp Q ↔ Go kL_law 2154 [a0, a1, a2, a3, a4, a5, a6, a7, a8] (.int 2 :: st) bc bs hp Q := Go_next (i := .iconst 2) rfl rfl
set_option maxRecDepth 100000 in
theorem sL_law_2154 {x y : Int32} : Go kL_law 2154 [a0, a1, a2, a3, a4, a5, a6, a7, a8] (.int y :: .int x :: st) bc bs hp Q ↔ Go kL_law 2155 [a0, a1, a2, a3, a4, a5, a6, a7, a8] (.int (x + y) :: st) bc bs hp Q := Go_next (i := .iadd) rfl rfl
set_option maxRecDepth 100000 in
theorem sL_law_2155 {x : Nat} {i : Int32} : Go kL_law 2155 [a0, a1, a2, a3, a4, a5, a6, a7, a8] (.int i :: .ref x :: st) bc bs hp Q ↔ RdA hp x 0 i (fun v => Go kL_law 2156 [a0, a1, a2, a3, a4, a5, a6, a7, a8] (.int v :: st) bc bs hp Q) := Go_iald rfl
set_option maxRecDepth 100000 in
theorem sL_law_2156 {p0 : Int32} {p1 : Int32} {x : Nat} : Go kL_law 2156 [a0, a1, a2, a3, a4, a5, a6, a7, a8] (.int p1 :: .int p0 :: .ref x :: st) bc bs hp Q ↔ Rcv hp x 8 ∧ nsum st ≤ 8 ∧ Call kX8_output [.ref x, .int p0, .int p1] hp (Aft kL_law 2159 [a0, a1, a2, a3, a4, a5, a6, a7, a8] st bc bs Q) := Go_invV0 rfl rfl rfl rfl rfl rfl rfl rfl rfl rfl
set_option maxRecDepth 100000 in
theorem sL_law_2159 {x : Int32} (hj : a6.category = 1) : Go kL_law 2159 [a0, a1, a2, a3, a4, a5, a6, a7, a8] (.int x :: st) bc bs hp Q ↔ Go kL_law 2161 [a0, a1, a2, a3, a4, a5, a6, (.int x), a8] st bc bs hp Q := Go_sto (i := .istore 7) (j := 7) (v := .int x) rfl rfl (Nat.le_of_ble_eq_true rfl) (decide_eq_true hj) rfl
set_option maxRecDepth 100000 in
theorem sL_law_2161 {x : Nat} : Go kL_law 2161 [a0, a1, (.ref x), a3, a4, a5, a6, a7, a8] st bc bs hp Q ↔ Go kL_law 2162 [a0, a1, (.ref x), a3, a4, a5, a6, a7, a8] (.ref x :: st) bc bs hp Q := Go_next (i := .aload_n 2) rfl rfl
set_option maxRecDepth 100000 in
theorem sL_law_2162 {x : Nat} : Go kL_law 2162 [a0, a1, a2, a3, a4, a5, a6, a7, a8] (.ref x :: st) bc bs hp Q ↔ Rcv hp x 8 ∧ nsum st ≤ 8 ∧ Call kX8_thrown [.ref x] hp (Aft kL_law 2165 [a0, a1, a2, a3, a4, a5, a6, a7, a8] st bc bs Q) := Go_invV0 rfl rfl rfl rfl rfl rfl rfl rfl rfl rfl
set_option maxRecDepth 100000 in
theorem sL_law_2165 {x : Int32} : Go kL_law 2165 [a0, a1, a2, a3, a4, a5, (.int x), a7, a8] st bc bs hp Q ↔ Go kL_law 2167 [a0, a1, a2, a3, a4, a5, (.int x), a7, a8] (.int x :: st) bc bs hp Q := Go_next (i := .iload 6) rfl rfl
set_option maxRecDepth 100000 in
theorem sL_law_2167 {x y : Int32} : Go kL_law 2167 [a0, a1, a2, a3, a4, a5, a6, a7, a8] (.int y :: .int x :: st) bc bs hp Q ↔ (x = y → Go kL_law 2172 [a0, a1, a2, a3, a4, a5, a6, a7, a8] st bc bs hp Q) ∧ (¬ x = y → Go kL_law 2170 [a0, a1, a2, a3, a4, a5, a6, a7, a8] st bc bs hp Q) := Go_ift (c := x = y) (i := .if_icmp .eq 5) rfl rfl
set_option maxRecDepth 100000 in
theorem sL_law_2170 : Go kL_law 2170 [a0, a1, a2, a3, a4, a5, a6, a7, a8] st bc bs hp Q ↔ Go kL_law 2171 [a0, a1, a2, a3, a4, a5, a6, a7, a8] (.int 0 :: st) bc bs hp Q := Go_next (i := .iconst 0) rfl rfl
set_option maxRecDepth 100000 in
theorem sL_law_2171 {x : Int32} : Go kL_law 2171 [a0, a1, a2, a3, a4, a5, a6, a7, a8] [.int x] bc bs hp Q ↔ outI kL_law x = true ∧ Q (.inl (some (.int x))) hp := Go_retIf (i := .ireturn) rfl rfl
set_option maxRecDepth 100000 in
theorem sL_law_2172 {x : Int32} : Go kL_law 2172 [a0, a1, a2, a3, a4, a5, (.int x), a7, a8] st bc bs hp Q ↔ Go kL_law 2174 [a0, a1, a2, a3, a4, a5, (.int x), a7, a8] (.int x :: st) bc bs hp Q := Go_next (i := .iload 6) rfl rfl
set_option maxRecDepth 100000 in
theorem sL_law_2174 {x : Int32} : Go kL_law 2174 [a0, a1, a2, a3, a4, a5, a6, a7, a8] (.int x :: st) bc bs hp Q ↔ (¬ x = 0 → Go kL_law 2189 [a0, a1, a2, a3, a4, a5, a6, a7, a8] st bc bs hp Q) ∧ (x = 0 → Go kL_law 2177 [a0, a1, a2, a3, a4, a5, a6, a7, a8] st bc bs hp Q) := Go_ifn (c := x = 0) (i := .ifCond .ne 15) rfl rfl
set_option maxRecDepth 100000 in
theorem sL_law_2177 {x : Nat} : Go kL_law 2177 [a0, a1, a2, (.ref x), a4, a5, a6, a7, a8] st bc bs hp Q ↔ Go kL_law 2178 [a0, a1, a2, (.ref x), a4, a5, a6, a7, a8] (.ref x :: st) bc bs hp Q := Go_next (i := .aload_n 3) rfl rfl
set_option maxRecDepth 100000 in
theorem sL_law_2178 : Go kL_law 2178 [a0, a1, a2, a3, a4, a5, a6, a7, a8] st bc bs hp Q ↔ Go kL_law 2179 [a0, a1, a2, a3, a4, a5, a6, a7, a8] (.int 0 :: st) bc bs hp Q := Go_next (i := .iconst 0) rfl rfl
set_option maxRecDepth 100000 in
theorem sL_law_2179 {x : Nat} {i : Int32} : Go kL_law 2179 [a0, a1, a2, a3, a4, a5, a6, a7, a8] (.int i :: .ref x :: st) bc bs hp Q ↔ RdL hp x i (fun v => Go kL_law 2180 [a0, a1, a2, a3, a4, a5, a6, a7, a8] (.long v :: st) bc bs hp Q) := Go_lald rfl
set_option maxRecDepth 100000 in
theorem sL_law_2180 {x : Int32} : Go kL_law 2180 [a0, a1, a2, a3, a4, a5, a6, (.int x), a8] st bc bs hp Q ↔ Go kL_law 2182 [a0, a1, a2, a3, a4, a5, a6, (.int x), a8] (.int x :: st) bc bs hp Q := Go_next (i := .iload 7) rfl rfl
set_option maxRecDepth 100000 in
theorem sL_law_2182 {x : Int32} : Go kL_law 2182 [a0, a1, a2, a3, a4, a5, a6, a7, a8] (.int x :: st) bc bs hp Q ↔ Go kL_law 2183 [a0, a1, a2, a3, a4, a5, a6, a7, a8] (.long x.toInt64 :: st) bc bs hp Q := Go_next (i := .i2l) rfl rfl
set_option maxRecDepth 100000 in
theorem sL_law_2183 {x y : Int64} : Go kL_law 2183 [a0, a1, a2, a3, a4, a5, a6, a7, a8] (.long y :: .long x :: st) bc bs hp Q ↔ Go kL_law 2184 [a0, a1, a2, a3, a4, a5, a6, a7, a8] (.int (lg_cmp x y) :: st) bc bs hp Q := Go_next (i := .lcmp) rfl rfl
set_option maxRecDepth 100000 in
theorem sL_law_2184 {x : Int32} : Go kL_law 2184 [a0, a1, a2, a3, a4, a5, a6, a7, a8] (.int x :: st) bc bs hp Q ↔ (x = 0 → Go kL_law 2189 [a0, a1, a2, a3, a4, a5, a6, a7, a8] st bc bs hp Q) ∧ (¬ x = 0 → Go kL_law 2187 [a0, a1, a2, a3, a4, a5, a6, a7, a8] st bc bs hp Q) := Go_ift (c := x = 0) (i := .ifCond .eq 5) rfl rfl
set_option maxRecDepth 100000 in
theorem sL_law_2187 : Go kL_law 2187 [a0, a1, a2, a3, a4, a5, a6, a7, a8] st bc bs hp Q ↔ Go kL_law 2188 [a0, a1, a2, a3, a4, a5, a6, a7, a8] (.int 0 :: st) bc bs hp Q := Go_next (i := .iconst 0) rfl rfl
set_option maxRecDepth 100000 in
theorem sL_law_2188 {x : Int32} : Go kL_law 2188 [a0, a1, a2, a3, a4, a5, a6, a7, a8] [.int x] bc bs hp Q ↔ outI kL_law x = true ∧ Q (.inl (some (.int x))) hp := Go_retIf (i := .ireturn) rfl rfl
set_option maxRecDepth 100000 in
theorem sL_law_2189 : Go kL_law 2189 [a0, a1, a2, a3, a4, a5, a6, a7, a8] st bc bs hp Q ↔ Go kL_law 3086 [a0, a1, a2, a3, a4, a5, a6, a7, a8] st bc bs hp Q := Go_next (i := .goto 897) rfl rfl
set_option maxRecDepth 100000 in
theorem sL_law_2192 {x : Nat} : Go kL_law 2192 [a0, (.ref x), a2, a3, a4, a5, a6, a7, a8] st bc bs hp Q ↔ Go kL_law 2193 [a0, (.ref x), a2, a3, a4, a5, a6, a7, a8] (.ref x :: st) bc bs hp Q := Go_next (i := .aload_n 1) rfl rfl
set_option maxRecDepth 100000 in
theorem sL_law_2193 {x : Nat} : Go kL_law 2193 [(.ref x), a1, a2, a3, a4, a5, a6, a7, a8] st bc bs hp Q ↔ Go kL_law 2194 [(.ref x), a1, a2, a3, a4, a5, a6, a7, a8] (.ref x :: st) bc bs hp Q := Go_next (i := .aload_n 0) rfl rfl
set_option maxRecDepth 100000 in
theorem sL_law_2194 {x : Int32} : Go kL_law 2194 [a0, a1, a2, a3, a4, (.int x), a6, a7, a8] st bc bs hp Q ↔ Go kL_law 2196 [a0, a1, a2, a3, a4, (.int x), a6, a7, a8] (.int x :: st) bc bs hp Q := Go_next (i := .iload 5) rfl rfl
set_option maxRecDepth 100000 in
theorem sL_law_2196 : Go kL_law 2196 [a0, a1, a2, a3, a4, a5, a6, a7, a8] st bc bs hp Q ↔ Go kL_law 2197 [a0, a1, a2, a3, a4, a5, a6, a7, a8] (.int 1 :: st) bc bs hp Q := Go_next (i := .iconst 1) rfl rfl
set_option maxRecDepth 100000 in
theorem sL_law_2197 {x y : Int32} : Go kL_law 2197 [a0, a1, a2, a3, a4, a5, a6, a7, a8] (.int y :: .int x :: st) bc bs hp Q ↔ Go kL_law 2198 [a0, a1, a2, a3, a4, a5, a6, a7, a8] (.int (x + y) :: st) bc bs hp Q := Go_next (i := .iadd) rfl rfl
set_option maxRecDepth 100000 in
theorem sL_law_2198 {x : Nat} {i : Int32} : Go kL_law 2198 [a0, a1, a2, a3, a4, a5, a6, a7, a8] (.int i :: .ref x :: st) bc bs hp Q ↔ RdA hp x 0 i (fun v => Go kL_law 2199 [a0, a1, a2, a3, a4, a5, a6, a7, a8] (.int v :: st) bc bs hp Q) := Go_iald rfl
set_option maxRecDepth 100000 in
theorem sL_law_2199 {x : Nat} : Go kL_law 2199 [(.ref x), a1, a2, a3, a4, a5, a6, a7, a8] st bc bs hp Q ↔ Go kL_law 2200 [(.ref x), a1, a2, a3, a4, a5, a6, a7, a8] (.ref x :: st) bc bs hp Q := Go_next (i := .aload_n 0) rfl rfl
set_option maxRecDepth 100000 in
theorem sL_law_2200 {x : Int32} : Go kL_law 2200 [a0, a1, a2, a3, a4, (.int x), a6, a7, a8] st bc bs hp Q ↔ Go kL_law 2202 [a0, a1, a2, a3, a4, (.int x), a6, a7, a8] (.int x :: st) bc bs hp Q := Go_next (i := .iload 5) rfl rfl
set_option maxRecDepth 100000 in
theorem sL_law_2202 : Go kL_law 2202 [a0, a1, a2, a3, a4, a5, a6, a7, a8] st bc bs hp Q ↔ Go kL_law 2203 [a0, a1, a2, a3, a4, a5, a6, a7, a8] (.int 2 :: st) bc bs hp Q := Go_next (i := .iconst 2) rfl rfl
set_option maxRecDepth 100000 in
theorem sL_law_2203 {x y : Int32} : Go kL_law 2203 [a0, a1, a2, a3, a4, a5, a6, a7, a8] (.int y :: .int x :: st) bc bs hp Q ↔ Go kL_law 2204 [a0, a1, a2, a3, a4, a5, a6, a7, a8] (.int (x + y) :: st) bc bs hp Q := Go_next (i := .iadd) rfl rfl
set_option maxRecDepth 100000 in
theorem sL_law_2204 {x : Nat} {i : Int32} : Go kL_law 2204 [a0, a1, a2, a3, a4, a5, a6, a7, a8] (.int i :: .ref x :: st) bc bs hp Q ↔ RdA hp x 0 i (fun v => Go kL_law 2205 [a0, a1, a2, a3, a4, a5, a6, a7, a8] (.int v :: st) bc bs hp Q) := Go_iald rfl
set_option maxRecDepth 100000 in
theorem sL_law_2205 {x : Nat} : Go kL_law 2205 [a0, a1, a2, (.ref x), a4, a5, a6, a7, a8] st bc bs hp Q ↔ Go kL_law 2206 [a0, a1, a2, (.ref x), a4, a5, a6, a7, a8] (.ref x :: st) bc bs hp Q := Go_next (i := .aload_n 3) rfl rfl
set_option maxRecDepth 100000 in
theorem sL_law_2206 {p0 : Nat} {p1 : Int32} {p2 : Int32} {p3 : Nat} : Go kL_law 2206 [a0, a1, a2, a3, a4, a5, a6, a7, a8] (.ref p3 :: .int p2 :: .int p1 :: .ref p0 :: st) bc bs hp Q ↔ (2 ≤ bc ∧ 12 ≤ bs ∧ nsum st ≤ 8) ∧ Call kL_outputBits [.ref p0, .int p1, .int p2, .ref p3] hp (Aft kL_law 2209 [a0, a1, a2, a3, a4, a5, a6, a7, a8] st (bc - 2) (bs - 12) Q) := Go_inv (i := .invokestatic 255) rfl rfl rfl rfl rfl rfl
set_option maxRecDepth 100000 in
theorem sL_law_2209 {x : Int32} (hj : a5.category = 1) : Go kL_law 2209 [a0, a1, a2, a3, a4, a5, a6, a7, a8] (.int x :: st) bc bs hp Q ↔ Go kL_law 2211 [a0, a1, a2, a3, a4, a5, (.int x), a7, a8] st bc bs hp Q := Go_sto (i := .istore 6) (j := 6) (v := .int x) rfl rfl (Nat.le_of_ble_eq_true rfl) (decide_eq_true hj) rfl
set_option maxRecDepth 100000 in
theorem sL_law_2211 {x : Nat} : Go kL_law 2211 [a0, a1, (.ref x), a3, a4, a5, a6, a7, a8] st bc bs hp Q ↔ Go kL_law 2212 [a0, a1, (.ref x), a3, a4, a5, a6, a7, a8] (.ref x :: st) bc bs hp Q := Go_next (i := .aload_n 2) rfl rfl
set_option maxRecDepth 100000 in
theorem sL_law_2212 {x : Nat} : Go kL_law 2212 [(.ref x), a1, a2, a3, a4, a5, a6, a7, a8] st bc bs hp Q ↔ Go kL_law 2213 [(.ref x), a1, a2, a3, a4, a5, a6, a7, a8] (.ref x :: st) bc bs hp Q := Go_next (i := .aload_n 0) rfl rfl
set_option maxRecDepth 100000 in
theorem sL_law_2213 {x : Int32} : Go kL_law 2213 [a0, a1, a2, a3, a4, (.int x), a6, a7, a8] st bc bs hp Q ↔ Go kL_law 2215 [a0, a1, a2, a3, a4, (.int x), a6, a7, a8] (.int x :: st) bc bs hp Q := Go_next (i := .iload 5) rfl rfl
set_option maxRecDepth 100000 in
theorem sL_law_2215 : Go kL_law 2215 [a0, a1, a2, a3, a4, a5, a6, a7, a8] st bc bs hp Q ↔ Go kL_law 2216 [a0, a1, a2, a3, a4, a5, a6, a7, a8] (.int 1 :: st) bc bs hp Q := Go_next (i := .iconst 1) rfl rfl
set_option maxRecDepth 100000 in
theorem sL_law_2216 {x y : Int32} : Go kL_law 2216 [a0, a1, a2, a3, a4, a5, a6, a7, a8] (.int y :: .int x :: st) bc bs hp Q ↔ Go kL_law 2217 [a0, a1, a2, a3, a4, a5, a6, a7, a8] (.int (x + y) :: st) bc bs hp Q := Go_next (i := .iadd) rfl rfl
set_option maxRecDepth 100000 in
theorem sL_law_2217 {x : Nat} {i : Int32} : Go kL_law 2217 [a0, a1, a2, a3, a4, a5, a6, a7, a8] (.int i :: .ref x :: st) bc bs hp Q ↔ RdA hp x 0 i (fun v => Go kL_law 2218 [a0, a1, a2, a3, a4, a5, a6, a7, a8] (.int v :: st) bc bs hp Q) := Go_iald rfl
set_option maxRecDepth 100000 in
theorem sL_law_2218 {x : Nat} : Go kL_law 2218 [(.ref x), a1, a2, a3, a4, a5, a6, a7, a8] st bc bs hp Q ↔ Go kL_law 2219 [(.ref x), a1, a2, a3, a4, a5, a6, a7, a8] (.ref x :: st) bc bs hp Q := Go_next (i := .aload_n 0) rfl rfl
set_option maxRecDepth 100000 in
theorem sL_law_2219 {x : Int32} : Go kL_law 2219 [a0, a1, a2, a3, a4, (.int x), a6, a7, a8] st bc bs hp Q ↔ Go kL_law 2221 [a0, a1, a2, a3, a4, (.int x), a6, a7, a8] (.int x :: st) bc bs hp Q := Go_next (i := .iload 5) rfl rfl
set_option maxRecDepth 100000 in
theorem sL_law_2221 : Go kL_law 2221 [a0, a1, a2, a3, a4, a5, a6, a7, a8] st bc bs hp Q ↔ Go kL_law 2222 [a0, a1, a2, a3, a4, a5, a6, a7, a8] (.int 2 :: st) bc bs hp Q := Go_next (i := .iconst 2) rfl rfl
set_option maxRecDepth 100000 in
theorem sL_law_2222 {x y : Int32} : Go kL_law 2222 [a0, a1, a2, a3, a4, a5, a6, a7, a8] (.int y :: .int x :: st) bc bs hp Q ↔ Go kL_law 2223 [a0, a1, a2, a3, a4, a5, a6, a7, a8] (.int (x + y) :: st) bc bs hp Q := Go_next (i := .iadd) rfl rfl
set_option maxRecDepth 100000 in
theorem sL_law_2223 {x : Nat} {i : Int32} : Go kL_law 2223 [a0, a1, a2, a3, a4, a5, a6, a7, a8] (.int i :: .ref x :: st) bc bs hp Q ↔ RdA hp x 0 i (fun v => Go kL_law 2224 [a0, a1, a2, a3, a4, a5, a6, a7, a8] (.int v :: st) bc bs hp Q) := Go_iald rfl
set_option maxRecDepth 100000 in
theorem sL_law_2224 {p0 : Int32} {p1 : Int32} {x : Nat} : Go kL_law 2224 [a0, a1, a2, a3, a4, a5, a6, a7, a8] (.int p1 :: .int p0 :: .ref x :: st) bc bs hp Q ↔ Rcv hp x 8 ∧ nsum st ≤ 8 ∧ Call kX8_outputBits [.ref x, .int p0, .int p1] hp (Aft kL_law 2227 [a0, a1, a2, a3, a4, a5, a6, a7, a8] st bc bs Q) := Go_invV0 rfl rfl rfl rfl rfl rfl rfl rfl rfl rfl
set_option maxRecDepth 100000 in
theorem sL_law_2227 {x : Int32} (hj : a6.category = 1) : Go kL_law 2227 [a0, a1, a2, a3, a4, a5, a6, a7, a8] (.int x :: st) bc bs hp Q ↔ Go kL_law 2229 [a0, a1, a2, a3, a4, a5, a6, (.int x), a8] st bc bs hp Q := Go_sto (i := .istore 7) (j := 7) (v := .int x) rfl rfl (Nat.le_of_ble_eq_true rfl) (decide_eq_true hj) rfl
set_option maxRecDepth 100000 in
theorem sL_law_2229 {x : Nat} : Go kL_law 2229 [a0, a1, (.ref x), a3, a4, a5, a6, a7, a8] st bc bs hp Q ↔ Go kL_law 2230 [a0, a1, (.ref x), a3, a4, a5, a6, a7, a8] (.ref x :: st) bc bs hp Q := Go_next (i := .aload_n 2) rfl rfl
set_option maxRecDepth 100000 in
theorem sL_law_2230 {x : Nat} : Go kL_law 2230 [a0, a1, a2, a3, a4, a5, a6, a7, a8] (.ref x :: st) bc bs hp Q ↔ Rcv hp x 8 ∧ nsum st ≤ 8 ∧ Call kX8_thrown [.ref x] hp (Aft kL_law 2233 [a0, a1, a2, a3, a4, a5, a6, a7, a8] st bc bs Q) := Go_invV0 rfl rfl rfl rfl rfl rfl rfl rfl rfl rfl
set_option maxRecDepth 100000 in
theorem sL_law_2233 {x : Int32} : Go kL_law 2233 [a0, a1, a2, a3, a4, a5, (.int x), a7, a8] st bc bs hp Q ↔ Go kL_law 2235 [a0, a1, a2, a3, a4, a5, (.int x), a7, a8] (.int x :: st) bc bs hp Q := Go_next (i := .iload 6) rfl rfl
set_option maxRecDepth 100000 in
theorem sL_law_2235 {x y : Int32} : Go kL_law 2235 [a0, a1, a2, a3, a4, a5, a6, a7, a8] (.int y :: .int x :: st) bc bs hp Q ↔ (x = y → Go kL_law 2240 [a0, a1, a2, a3, a4, a5, a6, a7, a8] st bc bs hp Q) ∧ (¬ x = y → Go kL_law 2238 [a0, a1, a2, a3, a4, a5, a6, a7, a8] st bc bs hp Q) := Go_ift (c := x = y) (i := .if_icmp .eq 5) rfl rfl
set_option maxRecDepth 100000 in
theorem sL_law_2238 : Go kL_law 2238 [a0, a1, a2, a3, a4, a5, a6, a7, a8] st bc bs hp Q ↔ Go kL_law 2239 [a0, a1, a2, a3, a4, a5, a6, a7, a8] (.int 0 :: st) bc bs hp Q := Go_next (i := .iconst 0) rfl rfl
set_option maxRecDepth 100000 in
theorem sL_law_2239 {x : Int32} : Go kL_law 2239 [a0, a1, a2, a3, a4, a5, a6, a7, a8] [.int x] bc bs hp Q ↔ outI kL_law x = true ∧ Q (.inl (some (.int x))) hp := Go_retIf (i := .ireturn) rfl rfl
set_option maxRecDepth 100000 in
theorem sL_law_2240 {x : Int32} : Go kL_law 2240 [a0, a1, a2, a3, a4, a5, (.int x), a7, a8] st bc bs hp Q ↔ Go kL_law 2242 [a0, a1, a2, a3, a4, a5, (.int x), a7, a8] (.int x :: st) bc bs hp Q := Go_next (i := .iload 6) rfl rfl
set_option maxRecDepth 100000 in
theorem sL_law_2242 {x : Int32} : Go kL_law 2242 [a0, a1, a2, a3, a4, a5, a6, a7, a8] (.int x :: st) bc bs hp Q ↔ (¬ x = 0 → Go kL_law 2257 [a0, a1, a2, a3, a4, a5, a6, a7, a8] st bc bs hp Q) ∧ (x = 0 → Go kL_law 2245 [a0, a1, a2, a3, a4, a5, a6, a7, a8] st bc bs hp Q) := Go_ifn (c := x = 0) (i := .ifCond .ne 15) rfl rfl
set_option maxRecDepth 100000 in
theorem sL_law_2245 {x : Nat} : Go kL_law 2245 [a0, a1, a2, (.ref x), a4, a5, a6, a7, a8] st bc bs hp Q ↔ Go kL_law 2246 [a0, a1, a2, (.ref x), a4, a5, a6, a7, a8] (.ref x :: st) bc bs hp Q := Go_next (i := .aload_n 3) rfl rfl
set_option maxRecDepth 100000 in
theorem sL_law_2246 : Go kL_law 2246 [a0, a1, a2, a3, a4, a5, a6, a7, a8] st bc bs hp Q ↔ Go kL_law 2247 [a0, a1, a2, a3, a4, a5, a6, a7, a8] (.int 0 :: st) bc bs hp Q := Go_next (i := .iconst 0) rfl rfl
set_option maxRecDepth 100000 in
theorem sL_law_2247 {x : Nat} {i : Int32} : Go kL_law 2247 [a0, a1, a2, a3, a4, a5, a6, a7, a8] (.int i :: .ref x :: st) bc bs hp Q ↔ RdL hp x i (fun v => Go kL_law 2248 [a0, a1, a2, a3, a4, a5, a6, a7, a8] (.long v :: st) bc bs hp Q) := Go_lald rfl
set_option maxRecDepth 100000 in
theorem sL_law_2248 {x : Int32} : Go kL_law 2248 [a0, a1, a2, a3, a4, a5, a6, (.int x), a8] st bc bs hp Q ↔ Go kL_law 2250 [a0, a1, a2, a3, a4, a5, a6, (.int x), a8] (.int x :: st) bc bs hp Q := Go_next (i := .iload 7) rfl rfl
set_option maxRecDepth 100000 in
theorem sL_law_2250 {x : Int32} : Go kL_law 2250 [a0, a1, a2, a3, a4, a5, a6, a7, a8] (.int x :: st) bc bs hp Q ↔ Go kL_law 2251 [a0, a1, a2, a3, a4, a5, a6, a7, a8] (.long x.toInt64 :: st) bc bs hp Q := Go_next (i := .i2l) rfl rfl
set_option maxRecDepth 100000 in
theorem sL_law_2251 {x y : Int64} : Go kL_law 2251 [a0, a1, a2, a3, a4, a5, a6, a7, a8] (.long y :: .long x :: st) bc bs hp Q ↔ Go kL_law 2252 [a0, a1, a2, a3, a4, a5, a6, a7, a8] (.int (lg_cmp x y) :: st) bc bs hp Q := Go_next (i := .lcmp) rfl rfl
set_option maxRecDepth 100000 in
theorem sL_law_2252 {x : Int32} : Go kL_law 2252 [a0, a1, a2, a3, a4, a5, a6, a7, a8] (.int x :: st) bc bs hp Q ↔ (x = 0 → Go kL_law 2257 [a0, a1, a2, a3, a4, a5, a6, a7, a8] st bc bs hp Q) ∧ (¬ x = 0 → Go kL_law 2255 [a0, a1, a2, a3, a4, a5, a6, a7, a8] st bc bs hp Q) := Go_ift (c := x = 0) (i := .ifCond .eq 5) rfl rfl
set_option maxRecDepth 100000 in
theorem sL_law_2255 : Go kL_law 2255 [a0, a1, a2, a3, a4, a5, a6, a7, a8] st bc bs hp Q ↔ Go kL_law 2256 [a0, a1, a2, a3, a4, a5, a6, a7, a8] (.int 0 :: st) bc bs hp Q := Go_next (i := .iconst 0) rfl rfl
set_option maxRecDepth 100000 in
theorem sL_law_2256 {x : Int32} : Go kL_law 2256 [a0, a1, a2, a3, a4, a5, a6, a7, a8] [.int x] bc bs hp Q ↔ outI kL_law x = true ∧ Q (.inl (some (.int x))) hp := Go_retIf (i := .ireturn) rfl rfl
set_option maxRecDepth 100000 in
theorem sL_law_2257 : Go kL_law 2257 [a0, a1, a2, a3, a4, a5, a6, a7, a8] st bc bs hp Q ↔ Go kL_law 3086 [a0, a1, a2, a3, a4, a5, a6, a7, a8] st bc bs hp Q := Go_next (i := .goto 829) rfl rfl
set_option maxRecDepth 100000 in
theorem sL_law_2260 {x : Nat} : Go kL_law 2260 [a0, (.ref x), a2, a3, a4, a5, a6, a7, a8] st bc bs hp Q ↔ Go kL_law 2261 [a0, (.ref x), a2, a3, a4, a5, a6, a7, a8] (.ref x :: st) bc bs hp Q := Go_next (i := .aload_n 1) rfl rfl
set_option maxRecDepth 100000 in
theorem sL_law_2261 {x : Nat} : Go kL_law 2261 [(.ref x), a1, a2, a3, a4, a5, a6, a7, a8] st bc bs hp Q ↔ Go kL_law 2262 [(.ref x), a1, a2, a3, a4, a5, a6, a7, a8] (.ref x :: st) bc bs hp Q := Go_next (i := .aload_n 0) rfl rfl
set_option maxRecDepth 100000 in
theorem sL_law_2262 {x : Int32} : Go kL_law 2262 [a0, a1, a2, a3, a4, (.int x), a6, a7, a8] st bc bs hp Q ↔ Go kL_law 2264 [a0, a1, a2, a3, a4, (.int x), a6, a7, a8] (.int x :: st) bc bs hp Q := Go_next (i := .iload 5) rfl rfl
set_option maxRecDepth 100000 in
theorem sL_law_2264 : Go kL_law 2264 [a0, a1, a2, a3, a4, a5, a6, a7, a8] st bc bs hp Q ↔ Go kL_law 2265 [a0, a1, a2, a3, a4, a5, a6, a7, a8] (.int 1 :: st) bc bs hp Q := Go_next (i := .iconst 1) rfl rfl
set_option maxRecDepth 100000 in
theorem sL_law_2265 {x y : Int32} : Go kL_law 2265 [a0, a1, a2, a3, a4, a5, a6, a7, a8] (.int y :: .int x :: st) bc bs hp Q ↔ Go kL_law 2266 [a0, a1, a2, a3, a4, a5, a6, a7, a8] (.int (x + y) :: st) bc bs hp Q := Go_next (i := .iadd) rfl rfl
set_option maxRecDepth 100000 in
theorem sL_law_2266 {x : Nat} {i : Int32} : Go kL_law 2266 [a0, a1, a2, a3, a4, a5, a6, a7, a8] (.int i :: .ref x :: st) bc bs hp Q ↔ RdA hp x 0 i (fun v => Go kL_law 2267 [a0, a1, a2, a3, a4, a5, a6, a7, a8] (.int v :: st) bc bs hp Q) := Go_iald rfl
set_option maxRecDepth 100000 in
theorem sL_law_2267 {x : Nat} : Go kL_law 2267 [a0, a1, a2, (.ref x), a4, a5, a6, a7, a8] st bc bs hp Q ↔ Go kL_law 2268 [a0, a1, a2, (.ref x), a4, a5, a6, a7, a8] (.ref x :: st) bc bs hp Q := Go_next (i := .aload_n 3) rfl rfl
set_option maxRecDepth 100000 in
theorem sL_law_2268 {p0 : Nat} {p1 : Int32} {p2 : Nat} : Go kL_law 2268 [a0, a1, a2, a3, a4, a5, a6, a7, a8] (.ref p2 :: .int p1 :: .ref p0 :: st) bc bs hp Q ↔ (1 ≤ bc ∧ 6 ≤ bs ∧ nsum st ≤ 8) ∧ Call kL_line [.ref p0, .int p1, .ref p2] hp (Aft kL_law 2271 [a0, a1, a2, a3, a4, a5, a6, a7, a8] st (bc - 1) (bs - 6) Q) := Go_inv (i := .invokestatic 258) rfl rfl rfl rfl rfl rfl
set_option maxRecDepth 100000 in
theorem sL_law_2271 {x : Int32} (hj : a5.category = 1) : Go kL_law 2271 [a0, a1, a2, a3, a4, a5, a6, a7, a8] (.int x :: st) bc bs hp Q ↔ Go kL_law 2273 [a0, a1, a2, a3, a4, a5, (.int x), a7, a8] st bc bs hp Q := Go_sto (i := .istore 6) (j := 6) (v := .int x) rfl rfl (Nat.le_of_ble_eq_true rfl) (decide_eq_true hj) rfl
set_option maxRecDepth 100000 in
theorem sL_law_2273 {x : Nat} : Go kL_law 2273 [a0, a1, (.ref x), a3, a4, a5, a6, a7, a8] st bc bs hp Q ↔ Go kL_law 2274 [a0, a1, (.ref x), a3, a4, a5, a6, a7, a8] (.ref x :: st) bc bs hp Q := Go_next (i := .aload_n 2) rfl rfl
set_option maxRecDepth 100000 in
theorem sL_law_2274 {x : Nat} : Go kL_law 2274 [(.ref x), a1, a2, a3, a4, a5, a6, a7, a8] st bc bs hp Q ↔ Go kL_law 2275 [(.ref x), a1, a2, a3, a4, a5, a6, a7, a8] (.ref x :: st) bc bs hp Q := Go_next (i := .aload_n 0) rfl rfl
set_option maxRecDepth 100000 in
theorem sL_law_2275 {x : Int32} : Go kL_law 2275 [a0, a1, a2, a3, a4, (.int x), a6, a7, a8] st bc bs hp Q ↔ Go kL_law 2277 [a0, a1, a2, a3, a4, (.int x), a6, a7, a8] (.int x :: st) bc bs hp Q := Go_next (i := .iload 5) rfl rfl
set_option maxRecDepth 100000 in
theorem sL_law_2277 : Go kL_law 2277 [a0, a1, a2, a3, a4, a5, a6, a7, a8] st bc bs hp Q ↔ Go kL_law 2278 [a0, a1, a2, a3, a4, a5, a6, a7, a8] (.int 1 :: st) bc bs hp Q := Go_next (i := .iconst 1) rfl rfl
set_option maxRecDepth 100000 in
theorem sL_law_2278 {x y : Int32} : Go kL_law 2278 [a0, a1, a2, a3, a4, a5, a6, a7, a8] (.int y :: .int x :: st) bc bs hp Q ↔ Go kL_law 2279 [a0, a1, a2, a3, a4, a5, a6, a7, a8] (.int (x + y) :: st) bc bs hp Q := Go_next (i := .iadd) rfl rfl
set_option maxRecDepth 100000 in
theorem sL_law_2279 {x : Nat} {i : Int32} : Go kL_law 2279 [a0, a1, a2, a3, a4, a5, a6, a7, a8] (.int i :: .ref x :: st) bc bs hp Q ↔ RdA hp x 0 i (fun v => Go kL_law 2280 [a0, a1, a2, a3, a4, a5, a6, a7, a8] (.int v :: st) bc bs hp Q) := Go_iald rfl
set_option maxRecDepth 100000 in
theorem sL_law_2280 {p0 : Int32} {x : Nat} : Go kL_law 2280 [a0, a1, a2, a3, a4, a5, a6, a7, a8] (.int p0 :: .ref x :: st) bc bs hp Q ↔ Rcv hp x 8 ∧ nsum st ≤ 8 ∧ Call kX8_line [.ref x, .int p0] hp (Aft kL_law 2283 [a0, a1, a2, a3, a4, a5, a6, a7, a8] st bc bs Q) := Go_invV0 rfl rfl rfl rfl rfl rfl rfl rfl rfl rfl
set_option maxRecDepth 100000 in
theorem sL_law_2283 {x : Int32} (hj : a6.category = 1) : Go kL_law 2283 [a0, a1, a2, a3, a4, a5, a6, a7, a8] (.int x :: st) bc bs hp Q ↔ Go kL_law 2285 [a0, a1, a2, a3, a4, a5, a6, (.int x), a8] st bc bs hp Q := Go_sto (i := .istore 7) (j := 7) (v := .int x) rfl rfl (Nat.le_of_ble_eq_true rfl) (decide_eq_true hj) rfl
set_option maxRecDepth 100000 in
theorem sL_law_2285 {x : Nat} : Go kL_law 2285 [a0, a1, (.ref x), a3, a4, a5, a6, a7, a8] st bc bs hp Q ↔ Go kL_law 2286 [a0, a1, (.ref x), a3, a4, a5, a6, a7, a8] (.ref x :: st) bc bs hp Q := Go_next (i := .aload_n 2) rfl rfl
set_option maxRecDepth 100000 in
theorem sL_law_2286 {x : Nat} : Go kL_law 2286 [a0, a1, a2, a3, a4, a5, a6, a7, a8] (.ref x :: st) bc bs hp Q ↔ Rcv hp x 8 ∧ nsum st ≤ 8 ∧ Call kX8_thrown [.ref x] hp (Aft kL_law 2289 [a0, a1, a2, a3, a4, a5, a6, a7, a8] st bc bs Q) := Go_invV0 rfl rfl rfl rfl rfl rfl rfl rfl rfl rfl
set_option maxRecDepth 100000 in
theorem sL_law_2289 {x : Int32} : Go kL_law 2289 [a0, a1, a2, a3, a4, a5, (.int x), a7, a8] st bc bs hp Q ↔ Go kL_law 2291 [a0, a1, a2, a3, a4, a5, (.int x), a7, a8] (.int x :: st) bc bs hp Q := Go_next (i := .iload 6) rfl rfl
set_option maxRecDepth 100000 in
theorem sL_law_2291 {x y : Int32} : Go kL_law 2291 [a0, a1, a2, a3, a4, a5, a6, a7, a8] (.int y :: .int x :: st) bc bs hp Q ↔ (x = y → Go kL_law 2296 [a0, a1, a2, a3, a4, a5, a6, a7, a8] st bc bs hp Q) ∧ (¬ x = y → Go kL_law 2294 [a0, a1, a2, a3, a4, a5, a6, a7, a8] st bc bs hp Q) := Go_ift (c := x = y) (i := .if_icmp .eq 5) rfl rfl
set_option maxRecDepth 100000 in
theorem sL_law_2294 : Go kL_law 2294 [a0, a1, a2, a3, a4, a5, a6, a7, a8] st bc bs hp Q ↔ Go kL_law 2295 [a0, a1, a2, a3, a4, a5, a6, a7, a8] (.int 0 :: st) bc bs hp Q := Go_next (i := .iconst 0) rfl rfl
set_option maxRecDepth 100000 in
theorem sL_law_2295 {x : Int32} : Go kL_law 2295 [a0, a1, a2, a3, a4, a5, a6, a7, a8] [.int x] bc bs hp Q ↔ outI kL_law x = true ∧ Q (.inl (some (.int x))) hp := Go_retIf (i := .ireturn) rfl rfl
set_option maxRecDepth 100000 in
theorem sL_law_2296 {x : Int32} : Go kL_law 2296 [a0, a1, a2, a3, a4, a5, (.int x), a7, a8] st bc bs hp Q ↔ Go kL_law 2298 [a0, a1, a2, a3, a4, a5, (.int x), a7, a8] (.int x :: st) bc bs hp Q := Go_next (i := .iload 6) rfl rfl
set_option maxRecDepth 100000 in
theorem sL_law_2298 {x : Int32} : Go kL_law 2298 [a0, a1, a2, a3, a4, a5, a6, a7, a8] (.int x :: st) bc bs hp Q ↔ (¬ x = 0 → Go kL_law 2313 [a0, a1, a2, a3, a4, a5, a6, a7, a8] st bc bs hp Q) ∧ (x = 0 → Go kL_law 2301 [a0, a1, a2, a3, a4, a5, a6, a7, a8] st bc bs hp Q) := Go_ifn (c := x = 0) (i := .ifCond .ne 15) rfl rfl
set_option maxRecDepth 100000 in
theorem sL_law_2301 {x : Nat} : Go kL_law 2301 [a0, a1, a2, (.ref x), a4, a5, a6, a7, a8] st bc bs hp Q ↔ Go kL_law 2302 [a0, a1, a2, (.ref x), a4, a5, a6, a7, a8] (.ref x :: st) bc bs hp Q := Go_next (i := .aload_n 3) rfl rfl
set_option maxRecDepth 100000 in
theorem sL_law_2302 : Go kL_law 2302 [a0, a1, a2, a3, a4, a5, a6, a7, a8] st bc bs hp Q ↔ Go kL_law 2303 [a0, a1, a2, a3, a4, a5, a6, a7, a8] (.int 0 :: st) bc bs hp Q := Go_next (i := .iconst 0) rfl rfl
set_option maxRecDepth 100000 in
theorem sL_law_2303 {x : Nat} {i : Int32} : Go kL_law 2303 [a0, a1, a2, a3, a4, a5, a6, a7, a8] (.int i :: .ref x :: st) bc bs hp Q ↔ RdL hp x i (fun v => Go kL_law 2304 [a0, a1, a2, a3, a4, a5, a6, a7, a8] (.long v :: st) bc bs hp Q) := Go_lald rfl
set_option maxRecDepth 100000 in
theorem sL_law_2304 {x : Int32} : Go kL_law 2304 [a0, a1, a2, a3, a4, a5, a6, (.int x), a8] st bc bs hp Q ↔ Go kL_law 2306 [a0, a1, a2, a3, a4, a5, a6, (.int x), a8] (.int x :: st) bc bs hp Q := Go_next (i := .iload 7) rfl rfl
set_option maxRecDepth 100000 in
theorem sL_law_2306 {x : Int32} : Go kL_law 2306 [a0, a1, a2, a3, a4, a5, a6, a7, a8] (.int x :: st) bc bs hp Q ↔ Go kL_law 2307 [a0, a1, a2, a3, a4, a5, a6, a7, a8] (.long x.toInt64 :: st) bc bs hp Q := Go_next (i := .i2l) rfl rfl
set_option maxRecDepth 100000 in
theorem sL_law_2307 {x y : Int64} : Go kL_law 2307 [a0, a1, a2, a3, a4, a5, a6, a7, a8] (.long y :: .long x :: st) bc bs hp Q ↔ Go kL_law 2308 [a0, a1, a2, a3, a4, a5, a6, a7, a8] (.int (lg_cmp x y) :: st) bc bs hp Q := Go_next (i := .lcmp) rfl rfl
set_option maxRecDepth 100000 in
theorem sL_law_2308 {x : Int32} : Go kL_law 2308 [a0, a1, a2, a3, a4, a5, a6, a7, a8] (.int x :: st) bc bs hp Q ↔ (x = 0 → Go kL_law 2313 [a0, a1, a2, a3, a4, a5, a6, a7, a8] st bc bs hp Q) ∧ (¬ x = 0 → Go kL_law 2311 [a0, a1, a2, a3, a4, a5, a6, a7, a8] st bc bs hp Q) := Go_ift (c := x = 0) (i := .ifCond .eq 5) rfl rfl
set_option maxRecDepth 100000 in
theorem sL_law_2311 : Go kL_law 2311 [a0, a1, a2, a3, a4, a5, a6, a7, a8] st bc bs hp Q ↔ Go kL_law 2312 [a0, a1, a2, a3, a4, a5, a6, a7, a8] (.int 0 :: st) bc bs hp Q := Go_next (i := .iconst 0) rfl rfl
set_option maxRecDepth 100000 in
theorem sL_law_2312 {x : Int32} : Go kL_law 2312 [a0, a1, a2, a3, a4, a5, a6, a7, a8] [.int x] bc bs hp Q ↔ outI kL_law x = true ∧ Q (.inl (some (.int x))) hp := Go_retIf (i := .ireturn) rfl rfl
set_option maxRecDepth 100000 in
theorem sL_law_2313 : Go kL_law 2313 [a0, a1, a2, a3, a4, a5, a6, a7, a8] st bc bs hp Q ↔ Go kL_law 3086 [a0, a1, a2, a3, a4, a5, a6, a7, a8] st bc bs hp Q := Go_next (i := .goto 773) rfl rfl
set_option maxRecDepth 100000 in
theorem sL_law_2316 {x : Nat} : Go kL_law 2316 [a0, (.ref x), a2, a3, a4, a5, a6, a7, a8] st bc bs hp Q ↔ Go kL_law 2317 [a0, (.ref x), a2, a3, a4, a5, a6, a7, a8] (.ref x :: st) bc bs hp Q := Go_next (i := .aload_n 1) rfl rfl
set_option maxRecDepth 100000 in
theorem sL_law_2317 {x : Nat} : Go kL_law 2317 [(.ref x), a1, a2, a3, a4, a5, a6, a7, a8] st bc bs hp Q ↔ Go kL_law 2318 [(.ref x), a1, a2, a3, a4, a5, a6, a7, a8] (.ref x :: st) bc bs hp Q := Go_next (i := .aload_n 0) rfl rfl
set_option maxRecDepth 100000 in
theorem sL_law_2318 {x : Int32} : Go kL_law 2318 [a0, a1, a2, a3, a4, (.int x), a6, a7, a8] st bc bs hp Q ↔ Go kL_law 2320 [a0, a1, a2, a3, a4, (.int x), a6, a7, a8] (.int x :: st) bc bs hp Q := Go_next (i := .iload 5) rfl rfl
set_option maxRecDepth 100000 in
theorem sL_law_2320 : Go kL_law 2320 [a0, a1, a2, a3, a4, a5, a6, a7, a8] st bc bs hp Q ↔ Go kL_law 2321 [a0, a1, a2, a3, a4, a5, a6, a7, a8] (.int 1 :: st) bc bs hp Q := Go_next (i := .iconst 1) rfl rfl
set_option maxRecDepth 100000 in
theorem sL_law_2321 {x y : Int32} : Go kL_law 2321 [a0, a1, a2, a3, a4, a5, a6, a7, a8] (.int y :: .int x :: st) bc bs hp Q ↔ Go kL_law 2322 [a0, a1, a2, a3, a4, a5, a6, a7, a8] (.int (x + y) :: st) bc bs hp Q := Go_next (i := .iadd) rfl rfl
set_option maxRecDepth 100000 in
theorem sL_law_2322 {x : Nat} {i : Int32} : Go kL_law 2322 [a0, a1, a2, a3, a4, a5, a6, a7, a8] (.int i :: .ref x :: st) bc bs hp Q ↔ RdA hp x 0 i (fun v => Go kL_law 2323 [a0, a1, a2, a3, a4, a5, a6, a7, a8] (.int v :: st) bc bs hp Q) := Go_iald rfl
set_option maxRecDepth 100000 in
theorem sL_law_2323 {x : Nat} : Go kL_law 2323 [(.ref x), a1, a2, a3, a4, a5, a6, a7, a8] st bc bs hp Q ↔ Go kL_law 2324 [(.ref x), a1, a2, a3, a4, a5, a6, a7, a8] (.ref x :: st) bc bs hp Q := Go_next (i := .aload_n 0) rfl rfl
set_option maxRecDepth 100000 in
theorem sL_law_2324 {x : Int32} : Go kL_law 2324 [a0, a1, a2, a3, a4, (.int x), a6, a7, a8] st bc bs hp Q ↔ Go kL_law 2326 [a0, a1, a2, a3, a4, (.int x), a6, a7, a8] (.int x :: st) bc bs hp Q := Go_next (i := .iload 5) rfl rfl
set_option maxRecDepth 100000 in
theorem sL_law_2326 : Go kL_law 2326 [a0, a1, a2, a3, a4, a5, a6, a7, a8] st bc bs hp Q ↔ Go kL_law 2327 [a0, a1, a2, a3, a4, a5, a6, a7, a8] (.int 2 :: st) bc bs hp Q := Go_next (i := .iconst 2) rfl rfl
set_option maxRecDepth 100000 in
theorem sL_law_2327 {x y : Int32} : Go kL_law 2327 [a0, a1, a2, a3, a4, a5, a6, a7, a8] (.int y :: .int x :: st) bc bs hp Q ↔ Go kL_law 2328 [a0, a1, a2, a3, a4, a5, a6, a7, a8] (.int (x + y) :: st) bc bs hp Q := Go_next (i := .iadd) rfl rfl
set_option maxRecDepth 100000 in
theorem sL_law_2328 {x : Nat} {i : Int32} : Go kL_law 2328 [a0, a1, a2, a3, a4, a5, a6, a7, a8] (.int i :: .ref x :: st) bc bs hp Q ↔ RdA hp x 0 i (fun v => Go kL_law 2329 [a0, a1, a2, a3, a4, a5, a6, a7, a8] (.int v :: st) bc bs hp Q) := Go_iald rfl
set_option maxRecDepth 100000 in
theorem sL_law_2329 {x : Nat} : Go kL_law 2329 [a0, a1, a2, (.ref x), a4, a5, a6, a7, a8] st bc bs hp Q ↔ Go kL_law 2330 [a0, a1, a2, (.ref x), a4, a5, a6, a7, a8] (.ref x :: st) bc bs hp Q := Go_next (i := .aload_n 3) rfl rfl
set_option maxRecDepth 100000 in
theorem sL_law_2330 {p0 : Nat} {p1 : Int32} {p2 : Int32} {p3 : Nat} : Go kL_law 2330 [a0, a1, a2, a3, a4, a5, a6, a7, a8] (.ref p3 :: .int p2 :: .int p1 :: .ref p0 :: st) bc bs hp Q ↔ (3 ≤ bc ∧ 18 ≤ bs ∧ nsum st ≤ 8) ∧ Call kL_decides [.ref p0, .int p1, .int p2, .ref p3] hp (Aft kL_law 2333 [a0, a1, a2, a3, a4, a5, a6, a7, a8] st (bc - 3) (bs - 18) Q) := Go_inv (i := .invokestatic 261) rfl rfl rfl rfl rfl rfl
set_option maxRecDepth 100000 in
theorem sL_law_2333 {x : Int32} (hj : a5.category = 1) : Go kL_law 2333 [a0, a1, a2, a3, a4, a5, a6, a7, a8] (.int x :: st) bc bs hp Q ↔ Go kL_law 2335 [a0, a1, a2, a3, a4, a5, (.int x), a7, a8] st bc bs hp Q := Go_sto (i := .istore 6) (j := 6) (v := .int x) rfl rfl (Nat.le_of_ble_eq_true rfl) (decide_eq_true hj) rfl
set_option maxRecDepth 100000 in
theorem sL_law_2335 {x : Nat} : Go kL_law 2335 [a0, a1, (.ref x), a3, a4, a5, a6, a7, a8] st bc bs hp Q ↔ Go kL_law 2336 [a0, a1, (.ref x), a3, a4, a5, a6, a7, a8] (.ref x :: st) bc bs hp Q := Go_next (i := .aload_n 2) rfl rfl
set_option maxRecDepth 100000 in
theorem sL_law_2336 {x : Nat} : Go kL_law 2336 [(.ref x), a1, a2, a3, a4, a5, a6, a7, a8] st bc bs hp Q ↔ Go kL_law 2337 [(.ref x), a1, a2, a3, a4, a5, a6, a7, a8] (.ref x :: st) bc bs hp Q := Go_next (i := .aload_n 0) rfl rfl
set_option maxRecDepth 100000 in
theorem sL_law_2337 {x : Int32} : Go kL_law 2337 [a0, a1, a2, a3, a4, (.int x), a6, a7, a8] st bc bs hp Q ↔ Go kL_law 2339 [a0, a1, a2, a3, a4, (.int x), a6, a7, a8] (.int x :: st) bc bs hp Q := Go_next (i := .iload 5) rfl rfl
set_option maxRecDepth 100000 in
theorem sL_law_2339 : Go kL_law 2339 [a0, a1, a2, a3, a4, a5, a6, a7, a8] st bc bs hp Q ↔ Go kL_law 2340 [a0, a1, a2, a3, a4, a5, a6, a7, a8] (.int 1 :: st) bc bs hp Q := Go_next (i := .iconst 1) rfl rfl
set_option maxRecDepth 100000 in
theorem sL_law_2340 {x y : Int32} : Go kL_law 2340 [a0, a1, a2, a3, a4, a5, a6, a7, a8] (.int y :: .int x :: st) bc bs hp Q ↔ Go kL_law 2341 [a0, a1, a2, a3, a4, a5, a6, a7, a8] (.int (x + y) :: st) bc bs hp Q := Go_next (i := .iadd) rfl rfl
set_option maxRecDepth 100000 in
theorem sL_law_2341 {x : Nat} {i : Int32} : Go kL_law 2341 [a0, a1, a2, a3, a4, a5, a6, a7, a8] (.int i :: .ref x :: st) bc bs hp Q ↔ RdA hp x 0 i (fun v => Go kL_law 2342 [a0, a1, a2, a3, a4, a5, a6, a7, a8] (.int v :: st) bc bs hp Q) := Go_iald rfl
set_option maxRecDepth 100000 in
theorem sL_law_2342 {x : Nat} : Go kL_law 2342 [(.ref x), a1, a2, a3, a4, a5, a6, a7, a8] st bc bs hp Q ↔ Go kL_law 2343 [(.ref x), a1, a2, a3, a4, a5, a6, a7, a8] (.ref x :: st) bc bs hp Q := Go_next (i := .aload_n 0) rfl rfl
set_option maxRecDepth 100000 in
theorem sL_law_2343 {x : Int32} : Go kL_law 2343 [a0, a1, a2, a3, a4, (.int x), a6, a7, a8] st bc bs hp Q ↔ Go kL_law 2345 [a0, a1, a2, a3, a4, (.int x), a6, a7, a8] (.int x :: st) bc bs hp Q := Go_next (i := .iload 5) rfl rfl
set_option maxRecDepth 100000 in
theorem sL_law_2345 : Go kL_law 2345 [a0, a1, a2, a3, a4, a5, a6, a7, a8] st bc bs hp Q ↔ Go kL_law 2346 [a0, a1, a2, a3, a4, a5, a6, a7, a8] (.int 2 :: st) bc bs hp Q := Go_next (i := .iconst 2) rfl rfl
set_option maxRecDepth 100000 in
theorem sL_law_2346 {x y : Int32} : Go kL_law 2346 [a0, a1, a2, a3, a4, a5, a6, a7, a8] (.int y :: .int x :: st) bc bs hp Q ↔ Go kL_law 2347 [a0, a1, a2, a3, a4, a5, a6, a7, a8] (.int (x + y) :: st) bc bs hp Q := Go_next (i := .iadd) rfl rfl
set_option maxRecDepth 100000 in
theorem sL_law_2347 {x : Nat} {i : Int32} : Go kL_law 2347 [a0, a1, a2, a3, a4, a5, a6, a7, a8] (.int i :: .ref x :: st) bc bs hp Q ↔ RdA hp x 0 i (fun v => Go kL_law 2348 [a0, a1, a2, a3, a4, a5, a6, a7, a8] (.int v :: st) bc bs hp Q) := Go_iald rfl
set_option maxRecDepth 100000 in
theorem sL_law_2348 {p0 : Int32} {p1 : Int32} {x : Nat} : Go kL_law 2348 [a0, a1, a2, a3, a4, a5, a6, a7, a8] (.int p1 :: .int p0 :: .ref x :: st) bc bs hp Q ↔ Rcv hp x 8 ∧ nsum st ≤ 8 ∧ Call kX8_decides [.ref x, .int p0, .int p1] hp (Aft kL_law 2351 [a0, a1, a2, a3, a4, a5, a6, a7, a8] st bc bs Q) := Go_invV0 rfl rfl rfl rfl rfl rfl rfl rfl rfl rfl
set_option maxRecDepth 100000 in
theorem sL_law_2351 {x : Int32} (hj : a6.category = 1) : Go kL_law 2351 [a0, a1, a2, a3, a4, a5, a6, a7, a8] (.int x :: st) bc bs hp Q ↔ Go kL_law 2353 [a0, a1, a2, a3, a4, a5, a6, (.int x), a8] st bc bs hp Q := Go_sto (i := .istore 7) (j := 7) (v := .int x) rfl rfl (Nat.le_of_ble_eq_true rfl) (decide_eq_true hj) rfl
set_option maxRecDepth 100000 in
theorem sL_law_2353 {x : Nat} : Go kL_law 2353 [a0, a1, (.ref x), a3, a4, a5, a6, a7, a8] st bc bs hp Q ↔ Go kL_law 2354 [a0, a1, (.ref x), a3, a4, a5, a6, a7, a8] (.ref x :: st) bc bs hp Q := Go_next (i := .aload_n 2) rfl rfl
set_option maxRecDepth 100000 in
theorem sL_law_2354 {x : Nat} : Go kL_law 2354 [a0, a1, a2, a3, a4, a5, a6, a7, a8] (.ref x :: st) bc bs hp Q ↔ Rcv hp x 8 ∧ nsum st ≤ 8 ∧ Call kX8_thrown [.ref x] hp (Aft kL_law 2357 [a0, a1, a2, a3, a4, a5, a6, a7, a8] st bc bs Q) := Go_invV0 rfl rfl rfl rfl rfl rfl rfl rfl rfl rfl
set_option maxRecDepth 100000 in
theorem sL_law_2357 {x : Int32} : Go kL_law 2357 [a0, a1, a2, a3, a4, a5, (.int x), a7, a8] st bc bs hp Q ↔ Go kL_law 2359 [a0, a1, a2, a3, a4, a5, (.int x), a7, a8] (.int x :: st) bc bs hp Q := Go_next (i := .iload 6) rfl rfl
set_option maxRecDepth 100000 in
theorem sL_law_2359 {x y : Int32} : Go kL_law 2359 [a0, a1, a2, a3, a4, a5, a6, a7, a8] (.int y :: .int x :: st) bc bs hp Q ↔ (x = y → Go kL_law 2364 [a0, a1, a2, a3, a4, a5, a6, a7, a8] st bc bs hp Q) ∧ (¬ x = y → Go kL_law 2362 [a0, a1, a2, a3, a4, a5, a6, a7, a8] st bc bs hp Q) := Go_ift (c := x = y) (i := .if_icmp .eq 5) rfl rfl
set_option maxRecDepth 100000 in
theorem sL_law_2362 : Go kL_law 2362 [a0, a1, a2, a3, a4, a5, a6, a7, a8] st bc bs hp Q ↔ Go kL_law 2363 [a0, a1, a2, a3, a4, a5, a6, a7, a8] (.int 0 :: st) bc bs hp Q := Go_next (i := .iconst 0) rfl rfl
set_option maxRecDepth 100000 in
theorem sL_law_2363 {x : Int32} : Go kL_law 2363 [a0, a1, a2, a3, a4, a5, a6, a7, a8] [.int x] bc bs hp Q ↔ outI kL_law x = true ∧ Q (.inl (some (.int x))) hp := Go_retIf (i := .ireturn) rfl rfl
set_option maxRecDepth 100000 in
theorem sL_law_2364 {x : Int32} : Go kL_law 2364 [a0, a1, a2, a3, a4, a5, (.int x), a7, a8] st bc bs hp Q ↔ Go kL_law 2366 [a0, a1, a2, a3, a4, a5, (.int x), a7, a8] (.int x :: st) bc bs hp Q := Go_next (i := .iload 6) rfl rfl
set_option maxRecDepth 100000 in
theorem sL_law_2366 {x : Int32} : Go kL_law 2366 [a0, a1, a2, a3, a4, a5, a6, a7, a8] (.int x :: st) bc bs hp Q ↔ (¬ x = 0 → Go kL_law 2381 [a0, a1, a2, a3, a4, a5, a6, a7, a8] st bc bs hp Q) ∧ (x = 0 → Go kL_law 2369 [a0, a1, a2, a3, a4, a5, a6, a7, a8] st bc bs hp Q) := Go_ifn (c := x = 0) (i := .ifCond .ne 15) rfl rfl
set_option maxRecDepth 100000 in
theorem sL_law_2369 {x : Nat} : Go kL_law 2369 [a0, a1, a2, (.ref x), a4, a5, a6, a7, a8] st bc bs hp Q ↔ Go kL_law 2370 [a0, a1, a2, (.ref x), a4, a5, a6, a7, a8] (.ref x :: st) bc bs hp Q := Go_next (i := .aload_n 3) rfl rfl
set_option maxRecDepth 100000 in
theorem sL_law_2370 : Go kL_law 2370 [a0, a1, a2, a3, a4, a5, a6, a7, a8] st bc bs hp Q ↔ Go kL_law 2371 [a0, a1, a2, a3, a4, a5, a6, a7, a8] (.int 0 :: st) bc bs hp Q := Go_next (i := .iconst 0) rfl rfl
set_option maxRecDepth 100000 in
theorem sL_law_2371 {x : Nat} {i : Int32} : Go kL_law 2371 [a0, a1, a2, a3, a4, a5, a6, a7, a8] (.int i :: .ref x :: st) bc bs hp Q ↔ RdL hp x i (fun v => Go kL_law 2372 [a0, a1, a2, a3, a4, a5, a6, a7, a8] (.long v :: st) bc bs hp Q) := Go_lald rfl
set_option maxRecDepth 100000 in
theorem sL_law_2372 {x : Int32} : Go kL_law 2372 [a0, a1, a2, a3, a4, a5, a6, (.int x), a8] st bc bs hp Q ↔ Go kL_law 2374 [a0, a1, a2, a3, a4, a5, a6, (.int x), a8] (.int x :: st) bc bs hp Q := Go_next (i := .iload 7) rfl rfl
set_option maxRecDepth 100000 in
theorem sL_law_2374 {x : Int32} : Go kL_law 2374 [a0, a1, a2, a3, a4, a5, a6, a7, a8] (.int x :: st) bc bs hp Q ↔ Go kL_law 2375 [a0, a1, a2, a3, a4, a5, a6, a7, a8] (.long x.toInt64 :: st) bc bs hp Q := Go_next (i := .i2l) rfl rfl
set_option maxRecDepth 100000 in
theorem sL_law_2375 {x y : Int64} : Go kL_law 2375 [a0, a1, a2, a3, a4, a5, a6, a7, a8] (.long y :: .long x :: st) bc bs hp Q ↔ Go kL_law 2376 [a0, a1, a2, a3, a4, a5, a6, a7, a8] (.int (lg_cmp x y) :: st) bc bs hp Q := Go_next (i := .lcmp) rfl rfl
set_option maxRecDepth 100000 in
theorem sL_law_2376 {x : Int32} : Go kL_law 2376 [a0, a1, a2, a3, a4, a5, a6, a7, a8] (.int x :: st) bc bs hp Q ↔ (x = 0 → Go kL_law 2381 [a0, a1, a2, a3, a4, a5, a6, a7, a8] st bc bs hp Q) ∧ (¬ x = 0 → Go kL_law 2379 [a0, a1, a2, a3, a4, a5, a6, a7, a8] st bc bs hp Q) := Go_ift (c := x = 0) (i := .ifCond .eq 5) rfl rfl
set_option maxRecDepth 100000 in
theorem sL_law_2379 : Go kL_law 2379 [a0, a1, a2, a3, a4, a5, a6, a7, a8] st bc bs hp Q ↔ Go kL_law 2380 [a0, a1, a2, a3, a4, a5, a6, a7, a8] (.int 0 :: st) bc bs hp Q := Go_next (i := .iconst 0) rfl rfl
set_option maxRecDepth 100000 in
theorem sL_law_2380 {x : Int32} : Go kL_law 2380 [a0, a1, a2, a3, a4, a5, a6, a7, a8] [.int x] bc bs hp Q ↔ outI kL_law x = true ∧ Q (.inl (some (.int x))) hp := Go_retIf (i := .ireturn) rfl rfl
set_option maxRecDepth 100000 in
theorem sL_law_2381 : Go kL_law 2381 [a0, a1, a2, a3, a4, a5, a6, a7, a8] st bc bs hp Q ↔ Go kL_law 3086 [a0, a1, a2, a3, a4, a5, a6, a7, a8] st bc bs hp Q := Go_next (i := .goto 705) rfl rfl
set_option maxRecDepth 100000 in
theorem sL_law_2384 {x : Nat} : Go kL_law 2384 [a0, (.ref x), a2, a3, a4, a5, a6, a7, a8] st bc bs hp Q ↔ Go kL_law 2385 [a0, (.ref x), a2, a3, a4, a5, a6, a7, a8] (.ref x :: st) bc bs hp Q := Go_next (i := .aload_n 1) rfl rfl
set_option maxRecDepth 100000 in
theorem sL_law_2385 {x : Nat} : Go kL_law 2385 [(.ref x), a1, a2, a3, a4, a5, a6, a7, a8] st bc bs hp Q ↔ Go kL_law 2386 [(.ref x), a1, a2, a3, a4, a5, a6, a7, a8] (.ref x :: st) bc bs hp Q := Go_next (i := .aload_n 0) rfl rfl
set_option maxRecDepth 100000 in
theorem sL_law_2386 {x : Int32} : Go kL_law 2386 [a0, a1, a2, a3, a4, (.int x), a6, a7, a8] st bc bs hp Q ↔ Go kL_law 2388 [a0, a1, a2, a3, a4, (.int x), a6, a7, a8] (.int x :: st) bc bs hp Q := Go_next (i := .iload 5) rfl rfl
set_option maxRecDepth 100000 in
theorem sL_law_2388 : Go kL_law 2388 [a0, a1, a2, a3, a4, a5, a6, a7, a8] st bc bs hp Q ↔ Go kL_law 2389 [a0, a1, a2, a3, a4, a5, a6, a7, a8] (.int 1 :: st) bc bs hp Q := Go_next (i := .iconst 1) rfl rfl
set_option maxRecDepth 100000 in
theorem sL_law_2389 {x y : Int32} : Go kL_law 2389 [a0, a1, a2, a3, a4, a5, a6, a7, a8] (.int y :: .int x :: st) bc bs hp Q ↔ Go kL_law 2390 [a0, a1, a2, a3, a4, a5, a6, a7, a8] (.int (x + y) :: st) bc bs hp Q := Go_next (i := .iadd) rfl rfl
set_option maxRecDepth 100000 in
theorem sL_law_2390 {x : Nat} {i : Int32} : Go kL_law 2390 [a0, a1, a2, a3, a4, a5, a6, a7, a8] (.int i :: .ref x :: st) bc bs hp Q ↔ RdA hp x 0 i (fun v => Go kL_law 2391 [a0, a1, a2, a3, a4, a5, a6, a7, a8] (.int v :: st) bc bs hp Q) := Go_iald rfl
set_option maxRecDepth 100000 in
theorem sL_law_2391 {x : Nat} : Go kL_law 2391 [(.ref x), a1, a2, a3, a4, a5, a6, a7, a8] st bc bs hp Q ↔ Go kL_law 2392 [(.ref x), a1, a2, a3, a4, a5, a6, a7, a8] (.ref x :: st) bc bs hp Q := Go_next (i := .aload_n 0) rfl rfl
set_option maxRecDepth 100000 in
theorem sL_law_2392 {x : Int32} : Go kL_law 2392 [a0, a1, a2, a3, a4, (.int x), a6, a7, a8] st bc bs hp Q ↔ Go kL_law 2394 [a0, a1, a2, a3, a4, (.int x), a6, a7, a8] (.int x :: st) bc bs hp Q := Go_next (i := .iload 5) rfl rfl
set_option maxRecDepth 100000 in
theorem sL_law_2394 : Go kL_law 2394 [a0, a1, a2, a3, a4, a5, a6, a7, a8] st bc bs hp Q ↔ Go kL_law 2395 [a0, a1, a2, a3, a4, a5, a6, a7, a8] (.int 2 :: st) bc bs hp Q := Go_next (i := .iconst 2) rfl rfl
set_option maxRecDepth 100000 in
theorem sL_law_2395 {x y : Int32} : Go kL_law 2395 [a0, a1, a2, a3, a4, a5, a6, a7, a8] (.int y :: .int x :: st) bc bs hp Q ↔ Go kL_law 2396 [a0, a1, a2, a3, a4, a5, a6, a7, a8] (.int (x + y) :: st) bc bs hp Q := Go_next (i := .iadd) rfl rfl
set_option maxRecDepth 100000 in
theorem sL_law_2396 {x : Nat} {i : Int32} : Go kL_law 2396 [a0, a1, a2, a3, a4, a5, a6, a7, a8] (.int i :: .ref x :: st) bc bs hp Q ↔ RdA hp x 0 i (fun v => Go kL_law 2397 [a0, a1, a2, a3, a4, a5, a6, a7, a8] (.int v :: st) bc bs hp Q) := Go_iald rfl
set_option maxRecDepth 100000 in
theorem sL_law_2397 {x : Nat} : Go kL_law 2397 [(.ref x), a1, a2, a3, a4, a5, a6, a7, a8] st bc bs hp Q ↔ Go kL_law 2398 [(.ref x), a1, a2, a3, a4, a5, a6, a7, a8] (.ref x :: st) bc bs hp Q := Go_next (i := .aload_n 0) rfl rfl
set_option maxRecDepth 100000 in
theorem sL_law_2398 {x : Int32} : Go kL_law 2398 [a0, a1, a2, a3, a4, (.int x), a6, a7, a8] st bc bs hp Q ↔ Go kL_law 2400 [a0, a1, a2, a3, a4, (.int x), a6, a7, a8] (.int x :: st) bc bs hp Q := Go_next (i := .iload 5) rfl rfl
set_option maxRecDepth 100000 in
theorem sL_law_2400 : Go kL_law 2400 [a0, a1, a2, a3, a4, a5, a6, a7, a8] st bc bs hp Q ↔ Go kL_law 2401 [a0, a1, a2, a3, a4, a5, a6, a7, a8] (.int 3 :: st) bc bs hp Q := Go_next (i := .iconst 3) rfl rfl
set_option maxRecDepth 100000 in
theorem sL_law_2401 {x y : Int32} : Go kL_law 2401 [a0, a1, a2, a3, a4, a5, a6, a7, a8] (.int y :: .int x :: st) bc bs hp Q ↔ Go kL_law 2402 [a0, a1, a2, a3, a4, a5, a6, a7, a8] (.int (x + y) :: st) bc bs hp Q := Go_next (i := .iadd) rfl rfl
set_option maxRecDepth 100000 in
theorem sL_law_2402 {x : Nat} {i : Int32} : Go kL_law 2402 [a0, a1, a2, a3, a4, a5, a6, a7, a8] (.int i :: .ref x :: st) bc bs hp Q ↔ RdA hp x 0 i (fun v => Go kL_law 2403 [a0, a1, a2, a3, a4, a5, a6, a7, a8] (.int v :: st) bc bs hp Q) := Go_iald rfl
set_option maxRecDepth 100000 in
theorem sL_law_2403 {x : Nat} : Go kL_law 2403 [a0, a1, a2, (.ref x), a4, a5, a6, a7, a8] st bc bs hp Q ↔ Go kL_law 2404 [a0, a1, a2, (.ref x), a4, a5, a6, a7, a8] (.ref x :: st) bc bs hp Q := Go_next (i := .aload_n 3) rfl rfl
set_option maxRecDepth 100000 in
theorem sL_law_2404 {p0 : Nat} {p1 : Int32} {p2 : Int32} {p3 : Int32} {p4 : Nat} : Go kL_law 2404 [a0, a1, a2, a3, a4, a5, a6, a7, a8] (.ref p4 :: .int p3 :: .int p2 :: .int p1 :: .ref p0 :: st) bc bs hp Q ↔ (4 ≤ bc ∧ 24 ≤ bs ∧ nsum st ≤ 8) ∧ Call kL_valueIn [.ref p0, .int p1, .int p2, .int p3, .ref p4] hp (Aft kL_law 2407 [a0, a1, a2, a3, a4, a5, a6, a7, a8] st (bc - 4) (bs - 24) Q) := Go_inv (i := .invokestatic 264) rfl rfl rfl rfl rfl rfl
set_option maxRecDepth 100000 in
theorem sL_law_2407 {x : Int32} (hj : a5.category = 1) : Go kL_law 2407 [a0, a1, a2, a3, a4, a5, a6, a7, a8] (.int x :: st) bc bs hp Q ↔ Go kL_law 2409 [a0, a1, a2, a3, a4, a5, (.int x), a7, a8] st bc bs hp Q := Go_sto (i := .istore 6) (j := 6) (v := .int x) rfl rfl (Nat.le_of_ble_eq_true rfl) (decide_eq_true hj) rfl
set_option maxRecDepth 100000 in
theorem sL_law_2409 {x : Nat} : Go kL_law 2409 [a0, a1, (.ref x), a3, a4, a5, a6, a7, a8] st bc bs hp Q ↔ Go kL_law 2410 [a0, a1, (.ref x), a3, a4, a5, a6, a7, a8] (.ref x :: st) bc bs hp Q := Go_next (i := .aload_n 2) rfl rfl
set_option maxRecDepth 100000 in
theorem sL_law_2410 {x : Nat} : Go kL_law 2410 [(.ref x), a1, a2, a3, a4, a5, a6, a7, a8] st bc bs hp Q ↔ Go kL_law 2411 [(.ref x), a1, a2, a3, a4, a5, a6, a7, a8] (.ref x :: st) bc bs hp Q := Go_next (i := .aload_n 0) rfl rfl
set_option maxRecDepth 100000 in
theorem sL_law_2411 {x : Int32} : Go kL_law 2411 [a0, a1, a2, a3, a4, (.int x), a6, a7, a8] st bc bs hp Q ↔ Go kL_law 2413 [a0, a1, a2, a3, a4, (.int x), a6, a7, a8] (.int x :: st) bc bs hp Q := Go_next (i := .iload 5) rfl rfl
set_option maxRecDepth 100000 in
theorem sL_law_2413 : Go kL_law 2413 [a0, a1, a2, a3, a4, a5, a6, a7, a8] st bc bs hp Q ↔ Go kL_law 2414 [a0, a1, a2, a3, a4, a5, a6, a7, a8] (.int 1 :: st) bc bs hp Q := Go_next (i := .iconst 1) rfl rfl
set_option maxRecDepth 100000 in
theorem sL_law_2414 {x y : Int32} : Go kL_law 2414 [a0, a1, a2, a3, a4, a5, a6, a7, a8] (.int y :: .int x :: st) bc bs hp Q ↔ Go kL_law 2415 [a0, a1, a2, a3, a4, a5, a6, a7, a8] (.int (x + y) :: st) bc bs hp Q := Go_next (i := .iadd) rfl rfl
set_option maxRecDepth 100000 in
theorem sL_law_2415 {x : Nat} {i : Int32} : Go kL_law 2415 [a0, a1, a2, a3, a4, a5, a6, a7, a8] (.int i :: .ref x :: st) bc bs hp Q ↔ RdA hp x 0 i (fun v => Go kL_law 2416 [a0, a1, a2, a3, a4, a5, a6, a7, a8] (.int v :: st) bc bs hp Q) := Go_iald rfl
set_option maxRecDepth 100000 in
theorem sL_law_2416 {x : Nat} : Go kL_law 2416 [(.ref x), a1, a2, a3, a4, a5, a6, a7, a8] st bc bs hp Q ↔ Go kL_law 2417 [(.ref x), a1, a2, a3, a4, a5, a6, a7, a8] (.ref x :: st) bc bs hp Q := Go_next (i := .aload_n 0) rfl rfl
set_option maxRecDepth 100000 in
theorem sL_law_2417 {x : Int32} : Go kL_law 2417 [a0, a1, a2, a3, a4, (.int x), a6, a7, a8] st bc bs hp Q ↔ Go kL_law 2419 [a0, a1, a2, a3, a4, (.int x), a6, a7, a8] (.int x :: st) bc bs hp Q := Go_next (i := .iload 5) rfl rfl
set_option maxRecDepth 100000 in
theorem sL_law_2419 : Go kL_law 2419 [a0, a1, a2, a3, a4, a5, a6, a7, a8] st bc bs hp Q ↔ Go kL_law 2420 [a0, a1, a2, a3, a4, a5, a6, a7, a8] (.int 2 :: st) bc bs hp Q := Go_next (i := .iconst 2) rfl rfl
set_option maxRecDepth 100000 in
theorem sL_law_2420 {x y : Int32} : Go kL_law 2420 [a0, a1, a2, a3, a4, a5, a6, a7, a8] (.int y :: .int x :: st) bc bs hp Q ↔ Go kL_law 2421 [a0, a1, a2, a3, a4, a5, a6, a7, a8] (.int (x + y) :: st) bc bs hp Q := Go_next (i := .iadd) rfl rfl
set_option maxRecDepth 100000 in
theorem sL_law_2421 {x : Nat} {i : Int32} : Go kL_law 2421 [a0, a1, a2, a3, a4, a5, a6, a7, a8] (.int i :: .ref x :: st) bc bs hp Q ↔ RdA hp x 0 i (fun v => Go kL_law 2422 [a0, a1, a2, a3, a4, a5, a6, a7, a8] (.int v :: st) bc bs hp Q) := Go_iald rfl
set_option maxRecDepth 100000 in
theorem sL_law_2422 {x : Nat} : Go kL_law 2422 [(.ref x), a1, a2, a3, a4, a5, a6, a7, a8] st bc bs hp Q ↔ Go kL_law 2423 [(.ref x), a1, a2, a3, a4, a5, a6, a7, a8] (.ref x :: st) bc bs hp Q := Go_next (i := .aload_n 0) rfl rfl
set_option maxRecDepth 100000 in
theorem sL_law_2423 {x : Int32} : Go kL_law 2423 [a0, a1, a2, a3, a4, (.int x), a6, a7, a8] st bc bs hp Q ↔ Go kL_law 2425 [a0, a1, a2, a3, a4, (.int x), a6, a7, a8] (.int x :: st) bc bs hp Q := Go_next (i := .iload 5) rfl rfl
set_option maxRecDepth 100000 in
theorem sL_law_2425 : Go kL_law 2425 [a0, a1, a2, a3, a4, a5, a6, a7, a8] st bc bs hp Q ↔ Go kL_law 2426 [a0, a1, a2, a3, a4, a5, a6, a7, a8] (.int 3 :: st) bc bs hp Q := Go_next (i := .iconst 3) rfl rfl
set_option maxRecDepth 100000 in
theorem sL_law_2426 {x y : Int32} : Go kL_law 2426 [a0, a1, a2, a3, a4, a5, a6, a7, a8] (.int y :: .int x :: st) bc bs hp Q ↔ Go kL_law 2427 [a0, a1, a2, a3, a4, a5, a6, a7, a8] (.int (x + y) :: st) bc bs hp Q := Go_next (i := .iadd) rfl rfl
set_option maxRecDepth 100000 in
theorem sL_law_2427 {x : Nat} {i : Int32} : Go kL_law 2427 [a0, a1, a2, a3, a4, a5, a6, a7, a8] (.int i :: .ref x :: st) bc bs hp Q ↔ RdA hp x 0 i (fun v => Go kL_law 2428 [a0, a1, a2, a3, a4, a5, a6, a7, a8] (.int v :: st) bc bs hp Q) := Go_iald rfl
set_option maxRecDepth 100000 in
theorem sL_law_2428 {p0 : Int32} {p1 : Int32} {p2 : Int32} {x : Nat} : Go kL_law 2428 [a0, a1, a2, a3, a4, a5, a6, a7, a8] (.int p2 :: .int p1 :: .int p0 :: .ref x :: st) bc bs hp Q ↔ Rcv hp x 8 ∧ nsum st ≤ 8 ∧ Call kX8_valueIn [.ref x, .int p0, .int p1, .int p2] hp (Aft kL_law 2431 [a0, a1, a2, a3, a4, a5, a6, a7, a8] st bc bs Q) := Go_invV0 rfl rfl rfl rfl rfl rfl rfl rfl rfl rfl
set_option maxRecDepth 100000 in
theorem sL_law_2431 {x : Int32} (hj : a6.category = 1) : Go kL_law 2431 [a0, a1, a2, a3, a4, a5, a6, a7, a8] (.int x :: st) bc bs hp Q ↔ Go kL_law 2433 [a0, a1, a2, a3, a4, a5, a6, (.int x), a8] st bc bs hp Q := Go_sto (i := .istore 7) (j := 7) (v := .int x) rfl rfl (Nat.le_of_ble_eq_true rfl) (decide_eq_true hj) rfl
set_option maxRecDepth 100000 in
theorem sL_law_2433 {x : Nat} : Go kL_law 2433 [a0, a1, (.ref x), a3, a4, a5, a6, a7, a8] st bc bs hp Q ↔ Go kL_law 2434 [a0, a1, (.ref x), a3, a4, a5, a6, a7, a8] (.ref x :: st) bc bs hp Q := Go_next (i := .aload_n 2) rfl rfl
set_option maxRecDepth 100000 in
theorem sL_law_2434 {x : Nat} : Go kL_law 2434 [a0, a1, a2, a3, a4, a5, a6, a7, a8] (.ref x :: st) bc bs hp Q ↔ Rcv hp x 8 ∧ nsum st ≤ 8 ∧ Call kX8_thrown [.ref x] hp (Aft kL_law 2437 [a0, a1, a2, a3, a4, a5, a6, a7, a8] st bc bs Q) := Go_invV0 rfl rfl rfl rfl rfl rfl rfl rfl rfl rfl
set_option maxRecDepth 100000 in
theorem sL_law_2437 {x : Int32} : Go kL_law 2437 [a0, a1, a2, a3, a4, a5, (.int x), a7, a8] st bc bs hp Q ↔ Go kL_law 2439 [a0, a1, a2, a3, a4, a5, (.int x), a7, a8] (.int x :: st) bc bs hp Q := Go_next (i := .iload 6) rfl rfl
set_option maxRecDepth 100000 in
theorem sL_law_2439 {x y : Int32} : Go kL_law 2439 [a0, a1, a2, a3, a4, a5, a6, a7, a8] (.int y :: .int x :: st) bc bs hp Q ↔ (x = y → Go kL_law 2444 [a0, a1, a2, a3, a4, a5, a6, a7, a8] st bc bs hp Q) ∧ (¬ x = y → Go kL_law 2442 [a0, a1, a2, a3, a4, a5, a6, a7, a8] st bc bs hp Q) := Go_ift (c := x = y) (i := .if_icmp .eq 5) rfl rfl
set_option maxRecDepth 100000 in
theorem sL_law_2442 : Go kL_law 2442 [a0, a1, a2, a3, a4, a5, a6, a7, a8] st bc bs hp Q ↔ Go kL_law 2443 [a0, a1, a2, a3, a4, a5, a6, a7, a8] (.int 0 :: st) bc bs hp Q := Go_next (i := .iconst 0) rfl rfl
set_option maxRecDepth 100000 in
theorem sL_law_2443 {x : Int32} : Go kL_law 2443 [a0, a1, a2, a3, a4, a5, a6, a7, a8] [.int x] bc bs hp Q ↔ outI kL_law x = true ∧ Q (.inl (some (.int x))) hp := Go_retIf (i := .ireturn) rfl rfl
set_option maxRecDepth 100000 in
theorem sL_law_2444 {x : Int32} : Go kL_law 2444 [a0, a1, a2, a3, a4, a5, (.int x), a7, a8] st bc bs hp Q ↔ Go kL_law 2446 [a0, a1, a2, a3, a4, a5, (.int x), a7, a8] (.int x :: st) bc bs hp Q := Go_next (i := .iload 6) rfl rfl
set_option maxRecDepth 100000 in
theorem sL_law_2446 {x : Int32} : Go kL_law 2446 [a0, a1, a2, a3, a4, a5, a6, a7, a8] (.int x :: st) bc bs hp Q ↔ (¬ x = 0 → Go kL_law 2461 [a0, a1, a2, a3, a4, a5, a6, a7, a8] st bc bs hp Q) ∧ (x = 0 → Go kL_law 2449 [a0, a1, a2, a3, a4, a5, a6, a7, a8] st bc bs hp Q) := Go_ifn (c := x = 0) (i := .ifCond .ne 15) rfl rfl
set_option maxRecDepth 100000 in
theorem sL_law_2449 {x : Nat} : Go kL_law 2449 [a0, a1, a2, (.ref x), a4, a5, a6, a7, a8] st bc bs hp Q ↔ Go kL_law 2450 [a0, a1, a2, (.ref x), a4, a5, a6, a7, a8] (.ref x :: st) bc bs hp Q := Go_next (i := .aload_n 3) rfl rfl
set_option maxRecDepth 100000 in
theorem sL_law_2450 : Go kL_law 2450 [a0, a1, a2, a3, a4, a5, a6, a7, a8] st bc bs hp Q ↔ Go kL_law 2451 [a0, a1, a2, a3, a4, a5, a6, a7, a8] (.int 0 :: st) bc bs hp Q := Go_next (i := .iconst 0) rfl rfl
set_option maxRecDepth 100000 in
theorem sL_law_2451 {x : Nat} {i : Int32} : Go kL_law 2451 [a0, a1, a2, a3, a4, a5, a6, a7, a8] (.int i :: .ref x :: st) bc bs hp Q ↔ RdL hp x i (fun v => Go kL_law 2452 [a0, a1, a2, a3, a4, a5, a6, a7, a8] (.long v :: st) bc bs hp Q) := Go_lald rfl
set_option maxRecDepth 100000 in
theorem sL_law_2452 {x : Int32} : Go kL_law 2452 [a0, a1, a2, a3, a4, a5, a6, (.int x), a8] st bc bs hp Q ↔ Go kL_law 2454 [a0, a1, a2, a3, a4, a5, a6, (.int x), a8] (.int x :: st) bc bs hp Q := Go_next (i := .iload 7) rfl rfl
set_option maxRecDepth 100000 in
theorem sL_law_2454 {x : Int32} : Go kL_law 2454 [a0, a1, a2, a3, a4, a5, a6, a7, a8] (.int x :: st) bc bs hp Q ↔ Go kL_law 2455 [a0, a1, a2, a3, a4, a5, a6, a7, a8] (.long x.toInt64 :: st) bc bs hp Q := Go_next (i := .i2l) rfl rfl
set_option maxRecDepth 100000 in
theorem sL_law_2455 {x y : Int64} : Go kL_law 2455 [a0, a1, a2, a3, a4, a5, a6, a7, a8] (.long y :: .long x :: st) bc bs hp Q ↔ Go kL_law 2456 [a0, a1, a2, a3, a4, a5, a6, a7, a8] (.int (lg_cmp x y) :: st) bc bs hp Q := Go_next (i := .lcmp) rfl rfl
set_option maxRecDepth 100000 in
theorem sL_law_2456 {x : Int32} : Go kL_law 2456 [a0, a1, a2, a3, a4, a5, a6, a7, a8] (.int x :: st) bc bs hp Q ↔ (x = 0 → Go kL_law 2461 [a0, a1, a2, a3, a4, a5, a6, a7, a8] st bc bs hp Q) ∧ (¬ x = 0 → Go kL_law 2459 [a0, a1, a2, a3, a4, a5, a6, a7, a8] st bc bs hp Q) := Go_ift (c := x = 0) (i := .ifCond .eq 5) rfl rfl
set_option maxRecDepth 100000 in
theorem sL_law_2459 : Go kL_law 2459 [a0, a1, a2, a3, a4, a5, a6, a7, a8] st bc bs hp Q ↔ Go kL_law 2460 [a0, a1, a2, a3, a4, a5, a6, a7, a8] (.int 0 :: st) bc bs hp Q := Go_next (i := .iconst 0) rfl rfl
set_option maxRecDepth 100000 in
theorem sL_law_2460 {x : Int32} : Go kL_law 2460 [a0, a1, a2, a3, a4, a5, a6, a7, a8] [.int x] bc bs hp Q ↔ outI kL_law x = true ∧ Q (.inl (some (.int x))) hp := Go_retIf (i := .ireturn) rfl rfl
set_option maxRecDepth 100000 in
theorem sL_law_2461 : Go kL_law 2461 [a0, a1, a2, a3, a4, a5, a6, a7, a8] st bc bs hp Q ↔ Go kL_law 3086 [a0, a1, a2, a3, a4, a5, a6, a7, a8] st bc bs hp Q := Go_next (i := .goto 625) rfl rfl
set_option maxRecDepth 100000 in
theorem sL_law_2464 {x : Nat} : Go kL_law 2464 [a0, (.ref x), a2, a3, a4, a5, a6, a7, a8] st bc bs hp Q ↔ Go kL_law 2465 [a0, (.ref x), a2, a3, a4, a5, a6, a7, a8] (.ref x :: st) bc bs hp Q := Go_next (i := .aload_n 1) rfl rfl
set_option maxRecDepth 100000 in
theorem sL_law_2465 {x : Nat} : Go kL_law 2465 [(.ref x), a1, a2, a3, a4, a5, a6, a7, a8] st bc bs hp Q ↔ Go kL_law 2466 [(.ref x), a1, a2, a3, a4, a5, a6, a7, a8] (.ref x :: st) bc bs hp Q := Go_next (i := .aload_n 0) rfl rfl
set_option maxRecDepth 100000 in
theorem sL_law_2466 {x : Int32} : Go kL_law 2466 [a0, a1, a2, a3, a4, (.int x), a6, a7, a8] st bc bs hp Q ↔ Go kL_law 2468 [a0, a1, a2, a3, a4, (.int x), a6, a7, a8] (.int x :: st) bc bs hp Q := Go_next (i := .iload 5) rfl rfl
set_option maxRecDepth 100000 in
theorem sL_law_2468 : Go kL_law 2468 [a0, a1, a2, a3, a4, a5, a6, a7, a8] st bc bs hp Q ↔ Go kL_law 2469 [a0, a1, a2, a3, a4, a5, a6, a7, a8] (.int 1 :: st) bc bs hp Q := Go_next (i := .iconst 1) rfl rfl
set_option maxRecDepth 100000 in
theorem sL_law_2469 {x y : Int32} : Go kL_law 2469 [a0, a1, a2, a3, a4, a5, a6, a7, a8] (.int y :: .int x :: st) bc bs hp Q ↔ Go kL_law 2470 [a0, a1, a2, a3, a4, a5, a6, a7, a8] (.int (x + y) :: st) bc bs hp Q := Go_next (i := .iadd) rfl rfl
set_option maxRecDepth 100000 in
theorem sL_law_2470 {x : Nat} {i : Int32} : Go kL_law 2470 [a0, a1, a2, a3, a4, a5, a6, a7, a8] (.int i :: .ref x :: st) bc bs hp Q ↔ RdA hp x 0 i (fun v => Go kL_law 2471 [a0, a1, a2, a3, a4, a5, a6, a7, a8] (.int v :: st) bc bs hp Q) := Go_iald rfl
set_option maxRecDepth 100000 in
theorem sL_law_2471 {x : Nat} : Go kL_law 2471 [(.ref x), a1, a2, a3, a4, a5, a6, a7, a8] st bc bs hp Q ↔ Go kL_law 2472 [(.ref x), a1, a2, a3, a4, a5, a6, a7, a8] (.ref x :: st) bc bs hp Q := Go_next (i := .aload_n 0) rfl rfl
set_option maxRecDepth 100000 in
theorem sL_law_2472 {x : Int32} : Go kL_law 2472 [a0, a1, a2, a3, a4, (.int x), a6, a7, a8] st bc bs hp Q ↔ Go kL_law 2474 [a0, a1, a2, a3, a4, (.int x), a6, a7, a8] (.int x :: st) bc bs hp Q := Go_next (i := .iload 5) rfl rfl
set_option maxRecDepth 100000 in
theorem sL_law_2474 : Go kL_law 2474 [a0, a1, a2, a3, a4, a5, a6, a7, a8] st bc bs hp Q ↔ Go kL_law 2475 [a0, a1, a2, a3, a4, a5, a6, a7, a8] (.int 2 :: st) bc bs hp Q := Go_next (i := .iconst 2) rfl rfl
set_option maxRecDepth 100000 in
theorem sL_law_2475 {x y : Int32} : Go kL_law 2475 [a0, a1, a2, a3, a4, a5, a6, a7, a8] (.int y :: .int x :: st) bc bs hp Q ↔ Go kL_law 2476 [a0, a1, a2, a3, a4, a5, a6, a7, a8] (.int (x + y) :: st) bc bs hp Q := Go_next (i := .iadd) rfl rfl
set_option maxRecDepth 100000 in
theorem sL_law_2476 {x : Nat} {i : Int32} : Go kL_law 2476 [a0, a1, a2, a3, a4, a5, a6, a7, a8] (.int i :: .ref x :: st) bc bs hp Q ↔ RdA hp x 0 i (fun v => Go kL_law 2477 [a0, a1, a2, a3, a4, a5, a6, a7, a8] (.int v :: st) bc bs hp Q) := Go_iald rfl
set_option maxRecDepth 100000 in
theorem sL_law_2477 {x : Nat} : Go kL_law 2477 [(.ref x), a1, a2, a3, a4, a5, a6, a7, a8] st bc bs hp Q ↔ Go kL_law 2478 [(.ref x), a1, a2, a3, a4, a5, a6, a7, a8] (.ref x :: st) bc bs hp Q := Go_next (i := .aload_n 0) rfl rfl
set_option maxRecDepth 100000 in
theorem sL_law_2478 {x : Int32} : Go kL_law 2478 [a0, a1, a2, a3, a4, (.int x), a6, a7, a8] st bc bs hp Q ↔ Go kL_law 2480 [a0, a1, a2, a3, a4, (.int x), a6, a7, a8] (.int x :: st) bc bs hp Q := Go_next (i := .iload 5) rfl rfl
set_option maxRecDepth 100000 in
theorem sL_law_2480 : Go kL_law 2480 [a0, a1, a2, a3, a4, a5, a6, a7, a8] st bc bs hp Q ↔ Go kL_law 2481 [a0, a1, a2, a3, a4, a5, a6, a7, a8] (.int 3 :: st) bc bs hp Q := Go_next (i := .iconst 3) rfl rfl
set_option maxRecDepth 100000 in
theorem sL_law_2481 {x y : Int32} : Go kL_law 2481 [a0, a1, a2, a3, a4, a5, a6, a7, a8] (.int y :: .int x :: st) bc bs hp Q ↔ Go kL_law 2482 [a0, a1, a2, a3, a4, a5, a6, a7, a8] (.int (x + y) :: st) bc bs hp Q := Go_next (i := .iadd) rfl rfl
set_option maxRecDepth 100000 in
theorem sL_law_2482 {x : Nat} {i : Int32} : Go kL_law 2482 [a0, a1, a2, a3, a4, a5, a6, a7, a8] (.int i :: .ref x :: st) bc bs hp Q ↔ RdA hp x 0 i (fun v => Go kL_law 2483 [a0, a1, a2, a3, a4, a5, a6, a7, a8] (.int v :: st) bc bs hp Q) := Go_iald rfl
set_option maxRecDepth 100000 in
theorem sL_law_2483 {x : Nat} : Go kL_law 2483 [(.ref x), a1, a2, a3, a4, a5, a6, a7, a8] st bc bs hp Q ↔ Go kL_law 2484 [(.ref x), a1, a2, a3, a4, a5, a6, a7, a8] (.ref x :: st) bc bs hp Q := Go_next (i := .aload_n 0) rfl rfl
set_option maxRecDepth 100000 in
theorem sL_law_2484 {x : Int32} : Go kL_law 2484 [a0, a1, a2, a3, a4, (.int x), a6, a7, a8] st bc bs hp Q ↔ Go kL_law 2486 [a0, a1, a2, a3, a4, (.int x), a6, a7, a8] (.int x :: st) bc bs hp Q := Go_next (i := .iload 5) rfl rfl
set_option maxRecDepth 100000 in
theorem sL_law_2486 : Go kL_law 2486 [a0, a1, a2, a3, a4, a5, a6, a7, a8] st bc bs hp Q ↔ Go kL_law 2487 [a0, a1, a2, a3, a4, a5, a6, a7, a8] (.int 4 :: st) bc bs hp Q := Go_next (i := .iconst 4) rfl rfl
set_option maxRecDepth 100000 in
theorem sL_law_2487 {x y : Int32} : Go kL_law 2487 [a0, a1, a2, a3, a4, a5, a6, a7, a8] (.int y :: .int x :: st) bc bs hp Q ↔ Go kL_law 2488 [a0, a1, a2, a3, a4, a5, a6, a7, a8] (.int (x + y) :: st) bc bs hp Q := Go_next (i := .iadd) rfl rfl
set_option maxRecDepth 100000 in
theorem sL_law_2488 {x : Nat} {i : Int32} : Go kL_law 2488 [a0, a1, a2, a3, a4, a5, a6, a7, a8] (.int i :: .ref x :: st) bc bs hp Q ↔ RdA hp x 0 i (fun v => Go kL_law 2489 [a0, a1, a2, a3, a4, a5, a6, a7, a8] (.int v :: st) bc bs hp Q) := Go_iald rfl
set_option maxRecDepth 100000 in
theorem sL_law_2489 {x : Nat} : Go kL_law 2489 [a0, a1, a2, (.ref x), a4, a5, a6, a7, a8] st bc bs hp Q ↔ Go kL_law 2490 [a0, a1, a2, (.ref x), a4, a5, a6, a7, a8] (.ref x :: st) bc bs hp Q := Go_next (i := .aload_n 3) rfl rfl
set_option maxRecDepth 100000 in
theorem sL_law_2490 {p0 : Nat} {p1 : Int32} {p2 : Int32} {p3 : Int32} {p4 : Int32} {p5 : Nat} : Go kL_law 2490 [a0, a1, a2, a3, a4, a5, a6, a7, a8] (.ref p5 :: .int p4 :: .int p3 :: .int p2 :: .int p1 :: .ref p0 :: st) bc bs hp Q ↔ (5 ≤ bc ∧ 30 ≤ bs ∧ nsum st ≤ 8) ∧ Call kL_tracked [.ref p0, .int p1, .int p2, .int p3, .int p4, .ref p5] hp (Aft kL_law 2493 [a0, a1, a2, a3, a4, a5, a6, a7, a8] st (bc - 5) (bs - 30) Q) := Go_inv (i := .invokestatic 267) rfl rfl rfl rfl rfl rfl
set_option maxRecDepth 100000 in
theorem sL_law_2493 {x : Int32} (hj : a5.category = 1) : Go kL_law 2493 [a0, a1, a2, a3, a4, a5, a6, a7, a8] (.int x :: st) bc bs hp Q ↔ Go kL_law 2495 [a0, a1, a2, a3, a4, a5, (.int x), a7, a8] st bc bs hp Q := Go_sto (i := .istore 6) (j := 6) (v := .int x) rfl rfl (Nat.le_of_ble_eq_true rfl) (decide_eq_true hj) rfl
set_option maxRecDepth 100000 in
theorem sL_law_2495 {x : Nat} : Go kL_law 2495 [a0, a1, (.ref x), a3, a4, a5, a6, a7, a8] st bc bs hp Q ↔ Go kL_law 2496 [a0, a1, (.ref x), a3, a4, a5, a6, a7, a8] (.ref x :: st) bc bs hp Q := Go_next (i := .aload_n 2) rfl rfl
set_option maxRecDepth 100000 in
theorem sL_law_2496 {x : Nat} : Go kL_law 2496 [(.ref x), a1, a2, a3, a4, a5, a6, a7, a8] st bc bs hp Q ↔ Go kL_law 2497 [(.ref x), a1, a2, a3, a4, a5, a6, a7, a8] (.ref x :: st) bc bs hp Q := Go_next (i := .aload_n 0) rfl rfl
set_option maxRecDepth 100000 in
theorem sL_law_2497 {x : Int32} : Go kL_law 2497 [a0, a1, a2, a3, a4, (.int x), a6, a7, a8] st bc bs hp Q ↔ Go kL_law 2499 [a0, a1, a2, a3, a4, (.int x), a6, a7, a8] (.int x :: st) bc bs hp Q := Go_next (i := .iload 5) rfl rfl
set_option maxRecDepth 100000 in
theorem sL_law_2499 : Go kL_law 2499 [a0, a1, a2, a3, a4, a5, a6, a7, a8] st bc bs hp Q ↔ Go kL_law 2500 [a0, a1, a2, a3, a4, a5, a6, a7, a8] (.int 1 :: st) bc bs hp Q := Go_next (i := .iconst 1) rfl rfl
set_option maxRecDepth 100000 in
theorem sL_law_2500 {x y : Int32} : Go kL_law 2500 [a0, a1, a2, a3, a4, a5, a6, a7, a8] (.int y :: .int x :: st) bc bs hp Q ↔ Go kL_law 2501 [a0, a1, a2, a3, a4, a5, a6, a7, a8] (.int (x + y) :: st) bc bs hp Q := Go_next (i := .iadd) rfl rfl
set_option maxRecDepth 100000 in
theorem sL_law_2501 {x : Nat} {i : Int32} : Go kL_law 2501 [a0, a1, a2, a3, a4, a5, a6, a7, a8] (.int i :: .ref x :: st) bc bs hp Q ↔ RdA hp x 0 i (fun v => Go kL_law 2502 [a0, a1, a2, a3, a4, a5, a6, a7, a8] (.int v :: st) bc bs hp Q) := Go_iald rfl
set_option maxRecDepth 100000 in
theorem sL_law_2502 {x : Nat} : Go kL_law 2502 [(.ref x), a1, a2, a3, a4, a5, a6, a7, a8] st bc bs hp Q ↔ Go kL_law 2503 [(.ref x), a1, a2, a3, a4, a5, a6, a7, a8] (.ref x :: st) bc bs hp Q := Go_next (i := .aload_n 0) rfl rfl
set_option maxRecDepth 100000 in
theorem sL_law_2503 {x : Int32} : Go kL_law 2503 [a0, a1, a2, a3, a4, (.int x), a6, a7, a8] st bc bs hp Q ↔ Go kL_law 2505 [a0, a1, a2, a3, a4, (.int x), a6, a7, a8] (.int x :: st) bc bs hp Q := Go_next (i := .iload 5) rfl rfl
set_option maxRecDepth 100000 in
theorem sL_law_2505 : Go kL_law 2505 [a0, a1, a2, a3, a4, a5, a6, a7, a8] st bc bs hp Q ↔ Go kL_law 2506 [a0, a1, a2, a3, a4, a5, a6, a7, a8] (.int 2 :: st) bc bs hp Q := Go_next (i := .iconst 2) rfl rfl
set_option maxRecDepth 100000 in
theorem sL_law_2506 {x y : Int32} : Go kL_law 2506 [a0, a1, a2, a3, a4, a5, a6, a7, a8] (.int y :: .int x :: st) bc bs hp Q ↔ Go kL_law 2507 [a0, a1, a2, a3, a4, a5, a6, a7, a8] (.int (x + y) :: st) bc bs hp Q := Go_next (i := .iadd) rfl rfl
set_option maxRecDepth 100000 in
theorem sL_law_2507 {x : Nat} {i : Int32} : Go kL_law 2507 [a0, a1, a2, a3, a4, a5, a6, a7, a8] (.int i :: .ref x :: st) bc bs hp Q ↔ RdA hp x 0 i (fun v => Go kL_law 2508 [a0, a1, a2, a3, a4, a5, a6, a7, a8] (.int v :: st) bc bs hp Q) := Go_iald rfl
set_option maxRecDepth 100000 in
theorem sL_law_2508 {x : Nat} : Go kL_law 2508 [(.ref x), a1, a2, a3, a4, a5, a6, a7, a8] st bc bs hp Q ↔ Go kL_law 2509 [(.ref x), a1, a2, a3, a4, a5, a6, a7, a8] (.ref x :: st) bc bs hp Q := Go_next (i := .aload_n 0) rfl rfl
set_option maxRecDepth 100000 in
theorem sL_law_2509 {x : Int32} : Go kL_law 2509 [a0, a1, a2, a3, a4, (.int x), a6, a7, a8] st bc bs hp Q ↔ Go kL_law 2511 [a0, a1, a2, a3, a4, (.int x), a6, a7, a8] (.int x :: st) bc bs hp Q := Go_next (i := .iload 5) rfl rfl
set_option maxRecDepth 100000 in
theorem sL_law_2511 : Go kL_law 2511 [a0, a1, a2, a3, a4, a5, a6, a7, a8] st bc bs hp Q ↔ Go kL_law 2512 [a0, a1, a2, a3, a4, a5, a6, a7, a8] (.int 3 :: st) bc bs hp Q := Go_next (i := .iconst 3) rfl rfl
set_option maxRecDepth 100000 in
theorem sL_law_2512 {x y : Int32} : Go kL_law 2512 [a0, a1, a2, a3, a4, a5, a6, a7, a8] (.int y :: .int x :: st) bc bs hp Q ↔ Go kL_law 2513 [a0, a1, a2, a3, a4, a5, a6, a7, a8] (.int (x + y) :: st) bc bs hp Q := Go_next (i := .iadd) rfl rfl
set_option maxRecDepth 100000 in
theorem sL_law_2513 {x : Nat} {i : Int32} : Go kL_law 2513 [a0, a1, a2, a3, a4, a5, a6, a7, a8] (.int i :: .ref x :: st) bc bs hp Q ↔ RdA hp x 0 i (fun v => Go kL_law 2514 [a0, a1, a2, a3, a4, a5, a6, a7, a8] (.int v :: st) bc bs hp Q) := Go_iald rfl
set_option maxRecDepth 100000 in
theorem sL_law_2514 {x : Nat} : Go kL_law 2514 [(.ref x), a1, a2, a3, a4, a5, a6, a7, a8] st bc bs hp Q ↔ Go kL_law 2515 [(.ref x), a1, a2, a3, a4, a5, a6, a7, a8] (.ref x :: st) bc bs hp Q := Go_next (i := .aload_n 0) rfl rfl
set_option maxRecDepth 100000 in
theorem sL_law_2515 {x : Int32} : Go kL_law 2515 [a0, a1, a2, a3, a4, (.int x), a6, a7, a8] st bc bs hp Q ↔ Go kL_law 2517 [a0, a1, a2, a3, a4, (.int x), a6, a7, a8] (.int x :: st) bc bs hp Q := Go_next (i := .iload 5) rfl rfl
set_option maxRecDepth 100000 in
theorem sL_law_2517 : Go kL_law 2517 [a0, a1, a2, a3, a4, a5, a6, a7, a8] st bc bs hp Q ↔ Go kL_law 2518 [a0, a1, a2, a3, a4, a5, a6, a7, a8] (.int 4 :: st) bc bs hp Q := Go_next (i := .iconst 4) rfl rfl
set_option maxRecDepth 100000 in
theorem sL_law_2518 {x y : Int32} : Go kL_law 2518 [a0, a1, a2, a3, a4, a5, a6, a7, a8] (.int y :: .int x :: st) bc bs hp Q ↔ Go kL_law 2519 [a0, a1, a2, a3, a4, a5, a6, a7, a8] (.int (x + y) :: st) bc bs hp Q := Go_next (i := .iadd) rfl rfl
set_option maxRecDepth 100000 in
theorem sL_law_2519 {x : Nat} {i : Int32} : Go kL_law 2519 [a0, a1, a2, a3, a4, a5, a6, a7, a8] (.int i :: .ref x :: st) bc bs hp Q ↔ RdA hp x 0 i (fun v => Go kL_law 2520 [a0, a1, a2, a3, a4, a5, a6, a7, a8] (.int v :: st) bc bs hp Q) := Go_iald rfl
set_option maxRecDepth 100000 in
theorem sL_law_2520 {p0 : Int32} {p1 : Int32} {p2 : Int32} {p3 : Int32} {x : Nat} : Go kL_law 2520 [a0, a1, a2, a3, a4, a5, a6, a7, a8] (.int p3 :: .int p2 :: .int p1 :: .int p0 :: .ref x :: st) bc bs hp Q ↔ Rcv hp x 8 ∧ nsum st ≤ 8 ∧ Call kX8_tracked [.ref x, .int p0, .int p1, .int p2, .int p3] hp (Aft kL_law 2523 [a0, a1, a2, a3, a4, a5, a6, a7, a8] st bc bs Q) := Go_invV0 rfl rfl rfl rfl rfl rfl rfl rfl rfl rfl
set_option maxRecDepth 100000 in
theorem sL_law_2523 {x : Int32} (hj : a6.category = 1) : Go kL_law 2523 [a0, a1, a2, a3, a4, a5, a6, a7, a8] (.int x :: st) bc bs hp Q ↔ Go kL_law 2525 [a0, a1, a2, a3, a4, a5, a6, (.int x), a8] st bc bs hp Q := Go_sto (i := .istore 7) (j := 7) (v := .int x) rfl rfl (Nat.le_of_ble_eq_true rfl) (decide_eq_true hj) rfl
set_option maxRecDepth 100000 in
theorem sL_law_2525 {x : Nat} : Go kL_law 2525 [a0, a1, (.ref x), a3, a4, a5, a6, a7, a8] st bc bs hp Q ↔ Go kL_law 2526 [a0, a1, (.ref x), a3, a4, a5, a6, a7, a8] (.ref x :: st) bc bs hp Q := Go_next (i := .aload_n 2) rfl rfl
set_option maxRecDepth 100000 in
theorem sL_law_2526 {x : Nat} : Go kL_law 2526 [a0, a1, a2, a3, a4, a5, a6, a7, a8] (.ref x :: st) bc bs hp Q ↔ Rcv hp x 8 ∧ nsum st ≤ 8 ∧ Call kX8_thrown [.ref x] hp (Aft kL_law 2529 [a0, a1, a2, a3, a4, a5, a6, a7, a8] st bc bs Q) := Go_invV0 rfl rfl rfl rfl rfl rfl rfl rfl rfl rfl
set_option maxRecDepth 100000 in
theorem sL_law_2529 {x : Int32} : Go kL_law 2529 [a0, a1, a2, a3, a4, a5, (.int x), a7, a8] st bc bs hp Q ↔ Go kL_law 2531 [a0, a1, a2, a3, a4, a5, (.int x), a7, a8] (.int x :: st) bc bs hp Q := Go_next (i := .iload 6) rfl rfl
set_option maxRecDepth 100000 in
theorem sL_law_2531 {x y : Int32} : Go kL_law 2531 [a0, a1, a2, a3, a4, a5, a6, a7, a8] (.int y :: .int x :: st) bc bs hp Q ↔ (x = y → Go kL_law 2536 [a0, a1, a2, a3, a4, a5, a6, a7, a8] st bc bs hp Q) ∧ (¬ x = y → Go kL_law 2534 [a0, a1, a2, a3, a4, a5, a6, a7, a8] st bc bs hp Q) := Go_ift (c := x = y) (i := .if_icmp .eq 5) rfl rfl
set_option maxRecDepth 100000 in
theorem sL_law_2534 : Go kL_law 2534 [a0, a1, a2, a3, a4, a5, a6, a7, a8] st bc bs hp Q ↔ Go kL_law 2535 [a0, a1, a2, a3, a4, a5, a6, a7, a8] (.int 0 :: st) bc bs hp Q := Go_next (i := .iconst 0) rfl rfl
set_option maxRecDepth 100000 in
theorem sL_law_2535 {x : Int32} : Go kL_law 2535 [a0, a1, a2, a3, a4, a5, a6, a7, a8] [.int x] bc bs hp Q ↔ outI kL_law x = true ∧ Q (.inl (some (.int x))) hp := Go_retIf (i := .ireturn) rfl rfl
set_option maxRecDepth 100000 in
theorem sL_law_2536 {x : Int32} : Go kL_law 2536 [a0, a1, a2, a3, a4, a5, (.int x), a7, a8] st bc bs hp Q ↔ Go kL_law 2538 [a0, a1, a2, a3, a4, a5, (.int x), a7, a8] (.int x :: st) bc bs hp Q := Go_next (i := .iload 6) rfl rfl
set_option maxRecDepth 100000 in
theorem sL_law_2538 {x : Int32} : Go kL_law 2538 [a0, a1, a2, a3, a4, a5, a6, a7, a8] (.int x :: st) bc bs hp Q ↔ (¬ x = 0 → Go kL_law 2553 [a0, a1, a2, a3, a4, a5, a6, a7, a8] st bc bs hp Q) ∧ (x = 0 → Go kL_law 2541 [a0, a1, a2, a3, a4, a5, a6, a7, a8] st bc bs hp Q) := Go_ifn (c := x = 0) (i := .ifCond .ne 15) rfl rfl
set_option maxRecDepth 100000 in
theorem sL_law_2541 {x : Nat} : Go kL_law 2541 [a0, a1, a2, (.ref x), a4, a5, a6, a7, a8] st bc bs hp Q ↔ Go kL_law 2542 [a0, a1, a2, (.ref x), a4, a5, a6, a7, a8] (.ref x :: st) bc bs hp Q := Go_next (i := .aload_n 3) rfl rfl
set_option maxRecDepth 100000 in
theorem sL_law_2542 : Go kL_law 2542 [a0, a1, a2, a3, a4, a5, a6, a7, a8] st bc bs hp Q ↔ Go kL_law 2543 [a0, a1, a2, a3, a4, a5, a6, a7, a8] (.int 0 :: st) bc bs hp Q := Go_next (i := .iconst 0) rfl rfl
set_option maxRecDepth 100000 in
theorem sL_law_2543 {x : Nat} {i : Int32} : Go kL_law 2543 [a0, a1, a2, a3, a4, a5, a6, a7, a8] (.int i :: .ref x :: st) bc bs hp Q ↔ RdL hp x i (fun v => Go kL_law 2544 [a0, a1, a2, a3, a4, a5, a6, a7, a8] (.long v :: st) bc bs hp Q) := Go_lald rfl
set_option maxRecDepth 100000 in
theorem sL_law_2544 {x : Int32} : Go kL_law 2544 [a0, a1, a2, a3, a4, a5, a6, (.int x), a8] st bc bs hp Q ↔ Go kL_law 2546 [a0, a1, a2, a3, a4, a5, a6, (.int x), a8] (.int x :: st) bc bs hp Q := Go_next (i := .iload 7) rfl rfl
set_option maxRecDepth 100000 in
theorem sL_law_2546 {x : Int32} : Go kL_law 2546 [a0, a1, a2, a3, a4, a5, a6, a7, a8] (.int x :: st) bc bs hp Q ↔ Go kL_law 2547 [a0, a1, a2, a3, a4, a5, a6, a7, a8] (.long x.toInt64 :: st) bc bs hp Q := Go_next (i := .i2l) rfl rfl
set_option maxRecDepth 100000 in
theorem sL_law_2547 {x y : Int64} : Go kL_law 2547 [a0, a1, a2, a3, a4, a5, a6, a7, a8] (.long y :: .long x :: st) bc bs hp Q ↔ Go kL_law 2548 [a0, a1, a2, a3, a4, a5, a6, a7, a8] (.int (lg_cmp x y) :: st) bc bs hp Q := Go_next (i := .lcmp) rfl rfl
set_option maxRecDepth 100000 in
theorem sL_law_2548 {x : Int32} : Go kL_law 2548 [a0, a1, a2, a3, a4, a5, a6, a7, a8] (.int x :: st) bc bs hp Q ↔ (x = 0 → Go kL_law 2553 [a0, a1, a2, a3, a4, a5, a6, a7, a8] st bc bs hp Q) ∧ (¬ x = 0 → Go kL_law 2551 [a0, a1, a2, a3, a4, a5, a6, a7, a8] st bc bs hp Q) := Go_ift (c := x = 0) (i := .ifCond .eq 5) rfl rfl
set_option maxRecDepth 100000 in
theorem sL_law_2551 : Go kL_law 2551 [a0, a1, a2, a3, a4, a5, a6, a7, a8] st bc bs hp Q ↔ Go kL_law 2552 [a0, a1, a2, a3, a4, a5, a6, a7, a8] (.int 0 :: st) bc bs hp Q := Go_next (i := .iconst 0) rfl rfl
set_option maxRecDepth 100000 in
theorem sL_law_2552 {x : Int32} : Go kL_law 2552 [a0, a1, a2, a3, a4, a5, a6, a7, a8] [.int x] bc bs hp Q ↔ outI kL_law x = true ∧ Q (.inl (some (.int x))) hp := Go_retIf (i := .ireturn) rfl rfl
set_option maxRecDepth 100000 in
theorem sL_law_2553 : Go kL_law 2553 [a0, a1, a2, a3, a4, a5, a6, a7, a8] st bc bs hp Q ↔ Go kL_law 3086 [a0, a1, a2, a3, a4, a5, a6, a7, a8] st bc bs hp Q := Go_next (i := .goto 533) rfl rfl
set_option maxRecDepth 100000 in
theorem sL_law_2556 {x : Nat} : Go kL_law 2556 [a0, (.ref x), a2, a3, a4, a5, a6, a7, a8] st bc bs hp Q ↔ Go kL_law 2557 [a0, (.ref x), a2, a3, a4, a5, a6, a7, a8] (.ref x :: st) bc bs hp Q := Go_next (i := .aload_n 1) rfl rfl
set_option maxRecDepth 100000 in
theorem sL_law_2557 {x : Nat} : Go kL_law 2557 [(.ref x), a1, a2, a3, a4, a5, a6, a7, a8] st bc bs hp Q ↔ Go kL_law 2558 [(.ref x), a1, a2, a3, a4, a5, a6, a7, a8] (.ref x :: st) bc bs hp Q := Go_next (i := .aload_n 0) rfl rfl
set_option maxRecDepth 100000 in
theorem sL_law_2558 {x : Int32} : Go kL_law 2558 [a0, a1, a2, a3, a4, (.int x), a6, a7, a8] st bc bs hp Q ↔ Go kL_law 2560 [a0, a1, a2, a3, a4, (.int x), a6, a7, a8] (.int x :: st) bc bs hp Q := Go_next (i := .iload 5) rfl rfl
set_option maxRecDepth 100000 in
theorem sL_law_2560 : Go kL_law 2560 [a0, a1, a2, a3, a4, a5, a6, a7, a8] st bc bs hp Q ↔ Go kL_law 2561 [a0, a1, a2, a3, a4, a5, a6, a7, a8] (.int 1 :: st) bc bs hp Q := Go_next (i := .iconst 1) rfl rfl
set_option maxRecDepth 100000 in
theorem sL_law_2561 {x y : Int32} : Go kL_law 2561 [a0, a1, a2, a3, a4, a5, a6, a7, a8] (.int y :: .int x :: st) bc bs hp Q ↔ Go kL_law 2562 [a0, a1, a2, a3, a4, a5, a6, a7, a8] (.int (x + y) :: st) bc bs hp Q := Go_next (i := .iadd) rfl rfl
set_option maxRecDepth 100000 in
theorem sL_law_2562 {x : Nat} {i : Int32} : Go kL_law 2562 [a0, a1, a2, a3, a4, a5, a6, a7, a8] (.int i :: .ref x :: st) bc bs hp Q ↔ RdA hp x 0 i (fun v => Go kL_law 2563 [a0, a1, a2, a3, a4, a5, a6, a7, a8] (.int v :: st) bc bs hp Q) := Go_iald rfl
set_option maxRecDepth 100000 in
theorem sL_law_2563 {x : Nat} : Go kL_law 2563 [(.ref x), a1, a2, a3, a4, a5, a6, a7, a8] st bc bs hp Q ↔ Go kL_law 2564 [(.ref x), a1, a2, a3, a4, a5, a6, a7, a8] (.ref x :: st) bc bs hp Q := Go_next (i := .aload_n 0) rfl rfl
set_option maxRecDepth 100000 in
theorem sL_law_2564 {x : Int32} : Go kL_law 2564 [a0, a1, a2, a3, a4, (.int x), a6, a7, a8] st bc bs hp Q ↔ Go kL_law 2566 [a0, a1, a2, a3, a4, (.int x), a6, a7, a8] (.int x :: st) bc bs hp Q := Go_next (i := .iload 5) rfl rfl
set_option maxRecDepth 100000 in
theorem sL_law_2566 : Go kL_law 2566 [a0, a1, a2, a3, a4, a5, a6, a7, a8] st bc bs hp Q ↔ Go kL_law 2567 [a0, a1, a2, a3, a4, a5, a6, a7, a8] (.int 2 :: st) bc bs hp Q := Go_next (i := .iconst 2) rfl rfl
set_option maxRecDepth 100000 in
theorem sL_law_2567 {x y : Int32} : Go kL_law 2567 [a0, a1, a2, a3, a4, a5, a6, a7, a8] (.int y :: .int x :: st) bc bs hp Q ↔ Go kL_law 2568 [a0, a1, a2, a3, a4, a5, a6, a7, a8] (.int (x + y) :: st) bc bs hp Q := Go_next (i := .iadd) rfl rfl
set_option maxRecDepth 100000 in
theorem sL_law_2568 {x : Nat} {i : Int32} : Go kL_law 2568 [a0, a1, a2, a3, a4, a5, a6, a7, a8] (.int i :: .ref x :: st) bc bs hp Q ↔ RdA hp x 0 i (fun v => Go kL_law 2569 [a0, a1, a2, a3, a4, a5, a6, a7, a8] (.int v :: st) bc bs hp Q) := Go_iald rfl
set_option maxRecDepth 100000 in
theorem sL_law_2569 {x : Nat} : Go kL_law 2569 [(.ref x), a1, a2, a3, a4, a5, a6, a7, a8] st bc bs hp Q ↔ Go kL_law 2570 [(.ref x), a1, a2, a3, a4, a5, a6, a7, a8] (.ref x :: st) bc bs hp Q := Go_next (i := .aload_n 0) rfl rfl
set_option maxRecDepth 100000 in
theorem sL_law_2570 {x : Int32} : Go kL_law 2570 [a0, a1, a2, a3, a4, (.int x), a6, a7, a8] st bc bs hp Q ↔ Go kL_law 2572 [a0, a1, a2, a3, a4, (.int x), a6, a7, a8] (.int x :: st) bc bs hp Q := Go_next (i := .iload 5) rfl rfl
set_option maxRecDepth 100000 in
theorem sL_law_2572 : Go kL_law 2572 [a0, a1, a2, a3, a4, a5, a6, a7, a8] st bc bs hp Q ↔ Go kL_law 2573 [a0, a1, a2, a3, a4, a5, a6, a7, a8] (.int 3 :: st) bc bs hp Q := Go_next (i := .iconst 3) rfl rfl
set_option maxRecDepth 100000 in
theorem sL_law_2573 {x y : Int32} : Go kL_law 2573 [a0, a1, a2, a3, a4, a5, a6, a7, a8] (.int y :: .int x :: st) bc bs hp Q ↔ Go kL_law 2574 [a0, a1, a2, a3, a4, a5, a6, a7, a8] (.int (x + y) :: st) bc bs hp Q := Go_next (i := .iadd) rfl rfl
set_option maxRecDepth 100000 in
theorem sL_law_2574 {x : Nat} {i : Int32} : Go kL_law 2574 [a0, a1, a2, a3, a4, a5, a6, a7, a8] (.int i :: .ref x :: st) bc bs hp Q ↔ RdA hp x 0 i (fun v => Go kL_law 2575 [a0, a1, a2, a3, a4, a5, a6, a7, a8] (.int v :: st) bc bs hp Q) := Go_iald rfl
set_option maxRecDepth 100000 in
theorem sL_law_2575 {x : Nat} : Go kL_law 2575 [(.ref x), a1, a2, a3, a4, a5, a6, a7, a8] st bc bs hp Q ↔ Go kL_law 2576 [(.ref x), a1, a2, a3, a4, a5, a6, a7, a8] (.ref x :: st) bc bs hp Q := Go_next (i := .aload_n 0) rfl rfl
set_option maxRecDepth 100000 in
theorem sL_law_2576 {x : Int32} : Go kL_law 2576 [a0, a1, a2, a3, a4, (.int x), a6, a7, a8] st bc bs hp Q ↔ Go kL_law 2578 [a0, a1, a2, a3, a4, (.int x), a6, a7, a8] (.int x :: st) bc bs hp Q := Go_next (i := .iload 5) rfl rfl
set_option maxRecDepth 100000 in
theorem sL_law_2578 : Go kL_law 2578 [a0, a1, a2, a3, a4, a5, a6, a7, a8] st bc bs hp Q ↔ Go kL_law 2579 [a0, a1, a2, a3, a4, a5, a6, a7, a8] (.int 4 :: st) bc bs hp Q := Go_next (i := .iconst 4) rfl rfl
set_option maxRecDepth 100000 in
theorem sL_law_2579 {x y : Int32} : Go kL_law 2579 [a0, a1, a2, a3, a4, a5, a6, a7, a8] (.int y :: .int x :: st) bc bs hp Q ↔ Go kL_law 2580 [a0, a1, a2, a3, a4, a5, a6, a7, a8] (.int (x + y) :: st) bc bs hp Q := Go_next (i := .iadd) rfl rfl
set_option maxRecDepth 100000 in
theorem sL_law_2580 {x : Nat} {i : Int32} : Go kL_law 2580 [a0, a1, a2, a3, a4, a5, a6, a7, a8] (.int i :: .ref x :: st) bc bs hp Q ↔ RdA hp x 0 i (fun v => Go kL_law 2581 [a0, a1, a2, a3, a4, a5, a6, a7, a8] (.int v :: st) bc bs hp Q) := Go_iald rfl
set_option maxRecDepth 100000 in
theorem sL_law_2581 {x : Nat} : Go kL_law 2581 [a0, a1, a2, (.ref x), a4, a5, a6, a7, a8] st bc bs hp Q ↔ Go kL_law 2582 [a0, a1, a2, (.ref x), a4, a5, a6, a7, a8] (.ref x :: st) bc bs hp Q := Go_next (i := .aload_n 3) rfl rfl
set_option maxRecDepth 100000 in
theorem sL_law_2582 {p0 : Nat} {p1 : Int32} {p2 : Int32} {p3 : Int32} {p4 : Int32} {p5 : Nat} : Go kL_law 2582 [a0, a1, a2, a3, a4, a5, a6, a7, a8] (.ref p5 :: .int p4 :: .int p3 :: .int p2 :: .int p1 :: .ref p0 :: st) bc bs hp Q ↔ (5 ≤ bc ∧ 30 ≤ bs ∧ nsum st ≤ 8) ∧ Call kL_source [.ref p0, .int p1, .int p2, .int p3, .int p4, .ref p5] hp (Aft kL_law 2585 [a0, a1, a2, a3, a4, a5, a6, a7, a8] st (bc - 5) (bs - 30) Q) := Go_inv (i := .invokestatic 270) rfl rfl rfl rfl rfl rfl
set_option maxRecDepth 100000 in
theorem sL_law_2585 {x : Int32} (hj : a5.category = 1) : Go kL_law 2585 [a0, a1, a2, a3, a4, a5, a6, a7, a8] (.int x :: st) bc bs hp Q ↔ Go kL_law 2587 [a0, a1, a2, a3, a4, a5, (.int x), a7, a8] st bc bs hp Q := Go_sto (i := .istore 6) (j := 6) (v := .int x) rfl rfl (Nat.le_of_ble_eq_true rfl) (decide_eq_true hj) rfl
set_option maxRecDepth 100000 in
theorem sL_law_2587 {x : Nat} : Go kL_law 2587 [a0, a1, (.ref x), a3, a4, a5, a6, a7, a8] st bc bs hp Q ↔ Go kL_law 2588 [a0, a1, (.ref x), a3, a4, a5, a6, a7, a8] (.ref x :: st) bc bs hp Q := Go_next (i := .aload_n 2) rfl rfl
set_option maxRecDepth 100000 in
theorem sL_law_2588 {x : Nat} : Go kL_law 2588 [(.ref x), a1, a2, a3, a4, a5, a6, a7, a8] st bc bs hp Q ↔ Go kL_law 2589 [(.ref x), a1, a2, a3, a4, a5, a6, a7, a8] (.ref x :: st) bc bs hp Q := Go_next (i := .aload_n 0) rfl rfl
set_option maxRecDepth 100000 in
theorem sL_law_2589 {x : Int32} : Go kL_law 2589 [a0, a1, a2, a3, a4, (.int x), a6, a7, a8] st bc bs hp Q ↔ Go kL_law 2591 [a0, a1, a2, a3, a4, (.int x), a6, a7, a8] (.int x :: st) bc bs hp Q := Go_next (i := .iload 5) rfl rfl
set_option maxRecDepth 100000 in
theorem sL_law_2591 : Go kL_law 2591 [a0, a1, a2, a3, a4, a5, a6, a7, a8] st bc bs hp Q ↔ Go kL_law 2592 [a0, a1, a2, a3, a4, a5, a6, a7, a8] (.int 1 :: st) bc bs hp Q := Go_next (i := .iconst 1) rfl rfl
set_option maxRecDepth 100000 in
theorem sL_law_2592 {x y : Int32} : Go kL_law 2592 [a0, a1, a2, a3, a4, a5, a6, a7, a8] (.int y :: .int x :: st) bc bs hp Q ↔ Go kL_law 2593 [a0, a1, a2, a3, a4, a5, a6, a7, a8] (.int (x + y) :: st) bc bs hp Q := Go_next (i := .iadd) rfl rfl
set_option maxRecDepth 100000 in
theorem sL_law_2593 {x : Nat} {i : Int32} : Go kL_law 2593 [a0, a1, a2, a3, a4, a5, a6, a7, a8] (.int i :: .ref x :: st) bc bs hp Q ↔ RdA hp x 0 i (fun v => Go kL_law 2594 [a0, a1, a2, a3, a4, a5, a6, a7, a8] (.int v :: st) bc bs hp Q) := Go_iald rfl
set_option maxRecDepth 100000 in
theorem sL_law_2594 {x : Nat} : Go kL_law 2594 [(.ref x), a1, a2, a3, a4, a5, a6, a7, a8] st bc bs hp Q ↔ Go kL_law 2595 [(.ref x), a1, a2, a3, a4, a5, a6, a7, a8] (.ref x :: st) bc bs hp Q := Go_next (i := .aload_n 0) rfl rfl
set_option maxRecDepth 100000 in
theorem sL_law_2595 {x : Int32} : Go kL_law 2595 [a0, a1, a2, a3, a4, (.int x), a6, a7, a8] st bc bs hp Q ↔ Go kL_law 2597 [a0, a1, a2, a3, a4, (.int x), a6, a7, a8] (.int x :: st) bc bs hp Q := Go_next (i := .iload 5) rfl rfl
set_option maxRecDepth 100000 in
theorem sL_law_2597 : Go kL_law 2597 [a0, a1, a2, a3, a4, a5, a6, a7, a8] st bc bs hp Q ↔ Go kL_law 2598 [a0, a1, a2, a3, a4, a5, a6, a7, a8] (.int 2 :: st) bc bs hp Q := Go_next (i := .iconst 2) rfl rfl
set_option maxRecDepth 100000 in
theorem sL_law_2598 {x y : Int32} : Go kL_law 2598 [a0, a1, a2, a3, a4, a5, a6, a7, a8] (.int y :: .int x :: st) bc bs hp Q ↔ Go kL_law 2599 [a0, a1, a2, a3, a4, a5, a6, a7, a8] (.int (x + y) :: st) bc bs hp Q := Go_next (i := .iadd) rfl rfl
set_option maxRecDepth 100000 in
theorem sL_law_2599 {x : Nat} {i : Int32} : Go kL_law 2599 [a0, a1, a2, a3, a4, a5, a6, a7, a8] (.int i :: .ref x :: st) bc bs hp Q ↔ RdA hp x 0 i (fun v => Go kL_law 2600 [a0, a1, a2, a3, a4, a5, a6, a7, a8] (.int v :: st) bc bs hp Q) := Go_iald rfl
set_option maxRecDepth 100000 in
theorem sL_law_2600 {x : Nat} : Go kL_law 2600 [(.ref x), a1, a2, a3, a4, a5, a6, a7, a8] st bc bs hp Q ↔ Go kL_law 2601 [(.ref x), a1, a2, a3, a4, a5, a6, a7, a8] (.ref x :: st) bc bs hp Q := Go_next (i := .aload_n 0) rfl rfl
set_option maxRecDepth 100000 in
theorem sL_law_2601 {x : Int32} : Go kL_law 2601 [a0, a1, a2, a3, a4, (.int x), a6, a7, a8] st bc bs hp Q ↔ Go kL_law 2603 [a0, a1, a2, a3, a4, (.int x), a6, a7, a8] (.int x :: st) bc bs hp Q := Go_next (i := .iload 5) rfl rfl
set_option maxRecDepth 100000 in
theorem sL_law_2603 : Go kL_law 2603 [a0, a1, a2, a3, a4, a5, a6, a7, a8] st bc bs hp Q ↔ Go kL_law 2604 [a0, a1, a2, a3, a4, a5, a6, a7, a8] (.int 3 :: st) bc bs hp Q := Go_next (i := .iconst 3) rfl rfl
set_option maxRecDepth 100000 in
theorem sL_law_2604 {x y : Int32} : Go kL_law 2604 [a0, a1, a2, a3, a4, a5, a6, a7, a8] (.int y :: .int x :: st) bc bs hp Q ↔ Go kL_law 2605 [a0, a1, a2, a3, a4, a5, a6, a7, a8] (.int (x + y) :: st) bc bs hp Q := Go_next (i := .iadd) rfl rfl
set_option maxRecDepth 100000 in
theorem sL_law_2605 {x : Nat} {i : Int32} : Go kL_law 2605 [a0, a1, a2, a3, a4, a5, a6, a7, a8] (.int i :: .ref x :: st) bc bs hp Q ↔ RdA hp x 0 i (fun v => Go kL_law 2606 [a0, a1, a2, a3, a4, a5, a6, a7, a8] (.int v :: st) bc bs hp Q) := Go_iald rfl
set_option maxRecDepth 100000 in
theorem sL_law_2606 {x : Nat} : Go kL_law 2606 [(.ref x), a1, a2, a3, a4, a5, a6, a7, a8] st bc bs hp Q ↔ Go kL_law 2607 [(.ref x), a1, a2, a3, a4, a5, a6, a7, a8] (.ref x :: st) bc bs hp Q := Go_next (i := .aload_n 0) rfl rfl
set_option maxRecDepth 100000 in
theorem sL_law_2607 {x : Int32} : Go kL_law 2607 [a0, a1, a2, a3, a4, (.int x), a6, a7, a8] st bc bs hp Q ↔ Go kL_law 2609 [a0, a1, a2, a3, a4, (.int x), a6, a7, a8] (.int x :: st) bc bs hp Q := Go_next (i := .iload 5) rfl rfl
set_option maxRecDepth 100000 in
theorem sL_law_2609 : Go kL_law 2609 [a0, a1, a2, a3, a4, a5, a6, a7, a8] st bc bs hp Q ↔ Go kL_law 2610 [a0, a1, a2, a3, a4, a5, a6, a7, a8] (.int 4 :: st) bc bs hp Q := Go_next (i := .iconst 4) rfl rfl
set_option maxRecDepth 100000 in
theorem sL_law_2610 {x y : Int32} : Go kL_law 2610 [a0, a1, a2, a3, a4, a5, a6, a7, a8] (.int y :: .int x :: st) bc bs hp Q ↔ Go kL_law 2611 [a0, a1, a2, a3, a4, a5, a6, a7, a8] (.int (x + y) :: st) bc bs hp Q := Go_next (i := .iadd) rfl rfl
set_option maxRecDepth 100000 in
theorem sL_law_2611 {x : Nat} {i : Int32} : Go kL_law 2611 [a0, a1, a2, a3, a4, a5, a6, a7, a8] (.int i :: .ref x :: st) bc bs hp Q ↔ RdA hp x 0 i (fun v => Go kL_law 2612 [a0, a1, a2, a3, a4, a5, a6, a7, a8] (.int v :: st) bc bs hp Q) := Go_iald rfl
set_option maxRecDepth 100000 in
theorem sL_law_2612 {p0 : Int32} {p1 : Int32} {p2 : Int32} {p3 : Int32} {x : Nat} : Go kL_law 2612 [a0, a1, a2, a3, a4, a5, a6, a7, a8] (.int p3 :: .int p2 :: .int p1 :: .int p0 :: .ref x :: st) bc bs hp Q ↔ Rcv hp x 8 ∧ nsum st ≤ 8 ∧ Call kX8_source [.ref x, .int p0, .int p1, .int p2, .int p3] hp (Aft kL_law 2615 [a0, a1, a2, a3, a4, a5, a6, a7, a8] st bc bs Q) := Go_invV0 rfl rfl rfl rfl rfl rfl rfl rfl rfl rfl
set_option maxRecDepth 100000 in
theorem sL_law_2615 {x : Int32} (hj : a6.category = 1) : Go kL_law 2615 [a0, a1, a2, a3, a4, a5, a6, a7, a8] (.int x :: st) bc bs hp Q ↔ Go kL_law 2617 [a0, a1, a2, a3, a4, a5, a6, (.int x), a8] st bc bs hp Q := Go_sto (i := .istore 7) (j := 7) (v := .int x) rfl rfl (Nat.le_of_ble_eq_true rfl) (decide_eq_true hj) rfl
set_option maxRecDepth 100000 in
theorem sL_law_2617 {x : Nat} : Go kL_law 2617 [a0, a1, (.ref x), a3, a4, a5, a6, a7, a8] st bc bs hp Q ↔ Go kL_law 2618 [a0, a1, (.ref x), a3, a4, a5, a6, a7, a8] (.ref x :: st) bc bs hp Q := Go_next (i := .aload_n 2) rfl rfl
set_option maxRecDepth 100000 in
theorem sL_law_2618 {x : Nat} : Go kL_law 2618 [a0, a1, a2, a3, a4, a5, a6, a7, a8] (.ref x :: st) bc bs hp Q ↔ Rcv hp x 8 ∧ nsum st ≤ 8 ∧ Call kX8_thrown [.ref x] hp (Aft kL_law 2621 [a0, a1, a2, a3, a4, a5, a6, a7, a8] st bc bs Q) := Go_invV0 rfl rfl rfl rfl rfl rfl rfl rfl rfl rfl
set_option maxRecDepth 100000 in
theorem sL_law_2621 {x : Int32} : Go kL_law 2621 [a0, a1, a2, a3, a4, a5, (.int x), a7, a8] st bc bs hp Q ↔ Go kL_law 2623 [a0, a1, a2, a3, a4, a5, (.int x), a7, a8] (.int x :: st) bc bs hp Q := Go_next (i := .iload 6) rfl rfl
set_option maxRecDepth 100000 in
theorem sL_law_2623 {x y : Int32} : Go kL_law 2623 [a0, a1, a2, a3, a4, a5, a6, a7, a8] (.int y :: .int x :: st) bc bs hp Q ↔ (x = y → Go kL_law 2628 [a0, a1, a2, a3, a4, a5, a6, a7, a8] st bc bs hp Q) ∧ (¬ x = y → Go kL_law 2626 [a0, a1, a2, a3, a4, a5, a6, a7, a8] st bc bs hp Q) := Go_ift (c := x = y) (i := .if_icmp .eq 5) rfl rfl
set_option maxRecDepth 100000 in
theorem sL_law_2626 : Go kL_law 2626 [a0, a1, a2, a3, a4, a5, a6, a7, a8] st bc bs hp Q ↔ Go kL_law 2627 [a0, a1, a2, a3, a4, a5, a6, a7, a8] (.int 0 :: st) bc bs hp Q := Go_next (i := .iconst 0) rfl rfl
set_option maxRecDepth 100000 in
theorem sL_law_2627 {x : Int32} : Go kL_law 2627 [a0, a1, a2, a3, a4, a5, a6, a7, a8] [.int x] bc bs hp Q ↔ outI kL_law x = true ∧ Q (.inl (some (.int x))) hp := Go_retIf (i := .ireturn) rfl rfl
set_option maxRecDepth 100000 in
theorem sL_law_2628 {x : Int32} : Go kL_law 2628 [a0, a1, a2, a3, a4, a5, (.int x), a7, a8] st bc bs hp Q ↔ Go kL_law 2630 [a0, a1, a2, a3, a4, a5, (.int x), a7, a8] (.int x :: st) bc bs hp Q := Go_next (i := .iload 6) rfl rfl
set_option maxRecDepth 100000 in
theorem sL_law_2630 {x : Int32} : Go kL_law 2630 [a0, a1, a2, a3, a4, a5, a6, a7, a8] (.int x :: st) bc bs hp Q ↔ (¬ x = 0 → Go kL_law 2645 [a0, a1, a2, a3, a4, a5, a6, a7, a8] st bc bs hp Q) ∧ (x = 0 → Go kL_law 2633 [a0, a1, a2, a3, a4, a5, a6, a7, a8] st bc bs hp Q) := Go_ifn (c := x = 0) (i := .ifCond .ne 15) rfl rfl
set_option maxRecDepth 100000 in
theorem sL_law_2633 {x : Nat} : Go kL_law 2633 [a0, a1, a2, (.ref x), a4, a5, a6, a7, a8] st bc bs hp Q ↔ Go kL_law 2634 [a0, a1, a2, (.ref x), a4, a5, a6, a7, a8] (.ref x :: st) bc bs hp Q := Go_next (i := .aload_n 3) rfl rfl
set_option maxRecDepth 100000 in
theorem sL_law_2634 : Go kL_law 2634 [a0, a1, a2, a3, a4, a5, a6, a7, a8] st bc bs hp Q ↔ Go kL_law 2635 [a0, a1, a2, a3, a4, a5, a6, a7, a8] (.int 0 :: st) bc bs hp Q := Go_next (i := .iconst 0) rfl rfl
set_option maxRecDepth 100000 in
theorem sL_law_2635 {x : Nat} {i : Int32} : Go kL_law 2635 [a0, a1, a2, a3, a4, a5, a6, a7, a8] (.int i :: .ref x :: st) bc bs hp Q ↔ RdL hp x i (fun v => Go kL_law 2636 [a0, a1, a2, a3, a4, a5, a6, a7, a8] (.long v :: st) bc bs hp Q) := Go_lald rfl
set_option maxRecDepth 100000 in
theorem sL_law_2636 {x : Int32} : Go kL_law 2636 [a0, a1, a2, a3, a4, a5, a6, (.int x), a8] st bc bs hp Q ↔ Go kL_law 2638 [a0, a1, a2, a3, a4, a5, a6, (.int x), a8] (.int x :: st) bc bs hp Q := Go_next (i := .iload 7) rfl rfl
set_option maxRecDepth 100000 in
theorem sL_law_2638 {x : Int32} : Go kL_law 2638 [a0, a1, a2, a3, a4, a5, a6, a7, a8] (.int x :: st) bc bs hp Q ↔ Go kL_law 2639 [a0, a1, a2, a3, a4, a5, a6, a7, a8] (.long x.toInt64 :: st) bc bs hp Q := Go_next (i := .i2l) rfl rfl
set_option maxRecDepth 100000 in
theorem sL_law_2639 {x y : Int64} : Go kL_law 2639 [a0, a1, a2, a3, a4, a5, a6, a7, a8] (.long y :: .long x :: st) bc bs hp Q ↔ Go kL_law 2640 [a0, a1, a2, a3, a4, a5, a6, a7, a8] (.int (lg_cmp x y) :: st) bc bs hp Q := Go_next (i := .lcmp) rfl rfl
set_option maxRecDepth 100000 in
theorem sL_law_2640 {x : Int32} : Go kL_law 2640 [a0, a1, a2, a3, a4, a5, a6, a7, a8] (.int x :: st) bc bs hp Q ↔ (x = 0 → Go kL_law 2645 [a0, a1, a2, a3, a4, a5, a6, a7, a8] st bc bs hp Q) ∧ (¬ x = 0 → Go kL_law 2643 [a0, a1, a2, a3, a4, a5, a6, a7, a8] st bc bs hp Q) := Go_ift (c := x = 0) (i := .ifCond .eq 5) rfl rfl
set_option maxRecDepth 100000 in
theorem sL_law_2643 : Go kL_law 2643 [a0, a1, a2, a3, a4, a5, a6, a7, a8] st bc bs hp Q ↔ Go kL_law 2644 [a0, a1, a2, a3, a4, a5, a6, a7, a8] (.int 0 :: st) bc bs hp Q := Go_next (i := .iconst 0) rfl rfl
set_option maxRecDepth 100000 in
theorem sL_law_2644 {x : Int32} : Go kL_law 2644 [a0, a1, a2, a3, a4, a5, a6, a7, a8] [.int x] bc bs hp Q ↔ outI kL_law x = true ∧ Q (.inl (some (.int x))) hp := Go_retIf (i := .ireturn) rfl rfl
set_option maxRecDepth 100000 in
theorem sL_law_2645 : Go kL_law 2645 [a0, a1, a2, a3, a4, a5, a6, a7, a8] st bc bs hp Q ↔ Go kL_law 3086 [a0, a1, a2, a3, a4, a5, a6, a7, a8] st bc bs hp Q := Go_next (i := .goto 441) rfl rfl
set_option maxRecDepth 100000 in
theorem sL_law_2648 {x : Nat} : Go kL_law 2648 [a0, (.ref x), a2, a3, a4, a5, a6, a7, a8] st bc bs hp Q ↔ Go kL_law 2649 [a0, (.ref x), a2, a3, a4, a5, a6, a7, a8] (.ref x :: st) bc bs hp Q := Go_next (i := .aload_n 1) rfl rfl
set_option maxRecDepth 100000 in
theorem sL_law_2649 {x : Nat} : Go kL_law 2649 [(.ref x), a1, a2, a3, a4, a5, a6, a7, a8] st bc bs hp Q ↔ Go kL_law 2650 [(.ref x), a1, a2, a3, a4, a5, a6, a7, a8] (.ref x :: st) bc bs hp Q := Go_next (i := .aload_n 0) rfl rfl
set_option maxRecDepth 100000 in
theorem sL_law_2650 {x : Int32} : Go kL_law 2650 [a0, a1, a2, a3, a4, (.int x), a6, a7, a8] st bc bs hp Q ↔ Go kL_law 2652 [a0, a1, a2, a3, a4, (.int x), a6, a7, a8] (.int x :: st) bc bs hp Q := Go_next (i := .iload 5) rfl rfl
set_option maxRecDepth 100000 in
theorem sL_law_2652 : Go kL_law 2652 [a0, a1, a2, a3, a4, a5, a6, a7, a8] st bc bs hp Q ↔ Go kL_law 2653 [a0, a1, a2, a3, a4, a5, a6, a7, a8] (.int 1 :: st) bc bs hp Q := Go_next (i := .iconst 1) rfl rfl
set_option maxRecDepth 100000 in
theorem sL_law_2653 {x y : Int32} : Go kL_law 2653 [a0, a1, a2, a3, a4, a5, a6, a7, a8] (.int y :: .int x :: st) bc bs hp Q ↔ Go kL_law 2654 [a0, a1, a2, a3, a4, a5, a6, a7, a8] (.int (x + y) :: st) bc bs hp Q := Go_next (i := .iadd) rfl rfl
set_option maxRecDepth 100000 in
theorem sL_law_2654 {x : Nat} {i : Int32} : Go kL_law 2654 [a0, a1, a2, a3, a4, a5, a6, a7, a8] (.int i :: .ref x :: st) bc bs hp Q ↔ RdA hp x 0 i (fun v => Go kL_law 2655 [a0, a1, a2, a3, a4, a5, a6, a7, a8] (.int v :: st) bc bs hp Q) := Go_iald rfl
set_option maxRecDepth 100000 in
theorem sL_law_2655 {x : Nat} : Go kL_law 2655 [(.ref x), a1, a2, a3, a4, a5, a6, a7, a8] st bc bs hp Q ↔ Go kL_law 2656 [(.ref x), a1, a2, a3, a4, a5, a6, a7, a8] (.ref x :: st) bc bs hp Q := Go_next (i := .aload_n 0) rfl rfl
set_option maxRecDepth 100000 in
theorem sL_law_2656 {x : Int32} : Go kL_law 2656 [a0, a1, a2, a3, a4, (.int x), a6, a7, a8] st bc bs hp Q ↔ Go kL_law 2658 [a0, a1, a2, a3, a4, (.int x), a6, a7, a8] (.int x :: st) bc bs hp Q := Go_next (i := .iload 5) rfl rfl
set_option maxRecDepth 100000 in
theorem sL_law_2658 : Go kL_law 2658 [a0, a1, a2, a3, a4, a5, a6, a7, a8] st bc bs hp Q ↔ Go kL_law 2659 [a0, a1, a2, a3, a4, a5, a6, a7, a8] (.int 2 :: st) bc bs hp Q := Go_next (i := .iconst 2) rfl rfl
set_option maxRecDepth 100000 in
theorem sL_law_2659 {x y : Int32} : Go kL_law 2659 [a0, a1, a2, a3, a4, a5, a6, a7, a8] (.int y :: .int x :: st) bc bs hp Q ↔ Go kL_law 2660 [a0, a1, a2, a3, a4, a5, a6, a7, a8] (.int (x + y) :: st) bc bs hp Q := Go_next (i := .iadd) rfl rfl
set_option maxRecDepth 100000 in
theorem sL_law_2660 {x : Nat} {i : Int32} : Go kL_law 2660 [a0, a1, a2, a3, a4, a5, a6, a7, a8] (.int i :: .ref x :: st) bc bs hp Q ↔ RdA hp x 0 i (fun v => Go kL_law 2661 [a0, a1, a2, a3, a4, a5, a6, a7, a8] (.int v :: st) bc bs hp Q) := Go_iald rfl
set_option maxRecDepth 100000 in
theorem sL_law_2661 {x : Nat} : Go kL_law 2661 [(.ref x), a1, a2, a3, a4, a5, a6, a7, a8] st bc bs hp Q ↔ Go kL_law 2662 [(.ref x), a1, a2, a3, a4, a5, a6, a7, a8] (.ref x :: st) bc bs hp Q := Go_next (i := .aload_n 0) rfl rfl
set_option maxRecDepth 100000 in
theorem sL_law_2662 {x : Int32} : Go kL_law 2662 [a0, a1, a2, a3, a4, (.int x), a6, a7, a8] st bc bs hp Q ↔ Go kL_law 2664 [a0, a1, a2, a3, a4, (.int x), a6, a7, a8] (.int x :: st) bc bs hp Q := Go_next (i := .iload 5) rfl rfl
set_option maxRecDepth 100000 in
theorem sL_law_2664 : Go kL_law 2664 [a0, a1, a2, a3, a4, a5, a6, a7, a8] st bc bs hp Q ↔ Go kL_law 2665 [a0, a1, a2, a3, a4, a5, a6, a7, a8] (.int 3 :: st) bc bs hp Q := Go_next (i := .iconst 3) rfl rfl
set_option maxRecDepth 100000 in
theorem sL_law_2665 {x y : Int32} : Go kL_law 2665 [a0, a1, a2, a3, a4, a5, a6, a7, a8] (.int y :: .int x :: st) bc bs hp Q ↔ Go kL_law 2666 [a0, a1, a2, a3, a4, a5, a6, a7, a8] (.int (x + y) :: st) bc bs hp Q := Go_next (i := .iadd) rfl rfl
set_option maxRecDepth 100000 in
theorem sL_law_2666 {x : Nat} {i : Int32} : Go kL_law 2666 [a0, a1, a2, a3, a4, a5, a6, a7, a8] (.int i :: .ref x :: st) bc bs hp Q ↔ RdA hp x 0 i (fun v => Go kL_law 2667 [a0, a1, a2, a3, a4, a5, a6, a7, a8] (.int v :: st) bc bs hp Q) := Go_iald rfl
set_option maxRecDepth 100000 in
theorem sL_law_2667 {x : Nat} : Go kL_law 2667 [(.ref x), a1, a2, a3, a4, a5, a6, a7, a8] st bc bs hp Q ↔ Go kL_law 2668 [(.ref x), a1, a2, a3, a4, a5, a6, a7, a8] (.ref x :: st) bc bs hp Q := Go_next (i := .aload_n 0) rfl rfl
set_option maxRecDepth 100000 in
theorem sL_law_2668 {x : Int32} : Go kL_law 2668 [a0, a1, a2, a3, a4, (.int x), a6, a7, a8] st bc bs hp Q ↔ Go kL_law 2670 [a0, a1, a2, a3, a4, (.int x), a6, a7, a8] (.int x :: st) bc bs hp Q := Go_next (i := .iload 5) rfl rfl
set_option maxRecDepth 100000 in
theorem sL_law_2670 : Go kL_law 2670 [a0, a1, a2, a3, a4, a5, a6, a7, a8] st bc bs hp Q ↔ Go kL_law 2671 [a0, a1, a2, a3, a4, a5, a6, a7, a8] (.int 4 :: st) bc bs hp Q := Go_next (i := .iconst 4) rfl rfl
set_option maxRecDepth 100000 in
theorem sL_law_2671 {x y : Int32} : Go kL_law 2671 [a0, a1, a2, a3, a4, a5, a6, a7, a8] (.int y :: .int x :: st) bc bs hp Q ↔ Go kL_law 2672 [a0, a1, a2, a3, a4, a5, a6, a7, a8] (.int (x + y) :: st) bc bs hp Q := Go_next (i := .iadd) rfl rfl
set_option maxRecDepth 100000 in
theorem sL_law_2672 {x : Nat} {i : Int32} : Go kL_law 2672 [a0, a1, a2, a3, a4, a5, a6, a7, a8] (.int i :: .ref x :: st) bc bs hp Q ↔ RdA hp x 0 i (fun v => Go kL_law 2673 [a0, a1, a2, a3, a4, a5, a6, a7, a8] (.int v :: st) bc bs hp Q) := Go_iald rfl
set_option maxRecDepth 100000 in
theorem sL_law_2673 {x : Nat} : Go kL_law 2673 [a0, a1, a2, (.ref x), a4, a5, a6, a7, a8] st bc bs hp Q ↔ Go kL_law 2674 [a0, a1, a2, (.ref x), a4, a5, a6, a7, a8] (.ref x :: st) bc bs hp Q := Go_next (i := .aload_n 3) rfl rfl
set_option maxRecDepth 100000 in
theorem sL_law_2674 {p0 : Nat} {p1 : Int32} {p2 : Int32} {p3 : Int32} {p4 : Int32} {p5 : Nat} : Go kL_law 2674 [a0, a1, a2, a3, a4, a5, a6, a7, a8] (.ref p5 :: .int p4 :: .int p3 :: .int p2 :: .int p1 :: .ref p0 :: st) bc bs hp Q ↔ (6 ≤ bc ∧ 36 ≤ bs ∧ nsum st ≤ 8) ∧ Call kL_paletteOf [.ref p0, .int p1, .int p2, .int p3, .int p4, .ref p5] hp (Aft kL_law 2677 [a0, a1, a2, a3, a4, a5, a6, a7, a8] st (bc - 6) (bs - 36) Q) := Go_inv (i := .invokestatic 273) rfl rfl rfl rfl rfl rfl
set_option maxRecDepth 100000 in
theorem sL_law_2677 {x : Int32} (hj : a5.category = 1) : Go kL_law 2677 [a0, a1, a2, a3, a4, a5, a6, a7, a8] (.int x :: st) bc bs hp Q ↔ Go kL_law 2679 [a0, a1, a2, a3, a4, a5, (.int x), a7, a8] st bc bs hp Q := Go_sto (i := .istore 6) (j := 6) (v := .int x) rfl rfl (Nat.le_of_ble_eq_true rfl) (decide_eq_true hj) rfl
set_option maxRecDepth 100000 in
theorem sL_law_2679 {x : Nat} : Go kL_law 2679 [a0, a1, (.ref x), a3, a4, a5, a6, a7, a8] st bc bs hp Q ↔ Go kL_law 2680 [a0, a1, (.ref x), a3, a4, a5, a6, a7, a8] (.ref x :: st) bc bs hp Q := Go_next (i := .aload_n 2) rfl rfl
set_option maxRecDepth 100000 in
theorem sL_law_2680 {x : Nat} : Go kL_law 2680 [(.ref x), a1, a2, a3, a4, a5, a6, a7, a8] st bc bs hp Q ↔ Go kL_law 2681 [(.ref x), a1, a2, a3, a4, a5, a6, a7, a8] (.ref x :: st) bc bs hp Q := Go_next (i := .aload_n 0) rfl rfl
set_option maxRecDepth 100000 in
theorem sL_law_2681 {x : Int32} : Go kL_law 2681 [a0, a1, a2, a3, a4, (.int x), a6, a7, a8] st bc bs hp Q ↔ Go kL_law 2683 [a0, a1, a2, a3, a4, (.int x), a6, a7, a8] (.int x :: st) bc bs hp Q := Go_next (i := .iload 5) rfl rfl
set_option maxRecDepth 100000 in
theorem sL_law_2683 : Go kL_law 2683 [a0, a1, a2, a3, a4, a5, a6, a7, a8] st bc bs hp Q ↔ Go kL_law 2684 [a0, a1, a2, a3, a4, a5, a6, a7, a8] (.int 1 :: st) bc bs hp Q := Go_next (i := .iconst 1) rfl rfl
set_option maxRecDepth 100000 in
theorem sL_law_2684 {x y : Int32} : Go kL_law 2684 [a0, a1, a2, a3, a4, a5, a6, a7, a8] (.int y :: .int x :: st) bc bs hp Q ↔ Go kL_law 2685 [a0, a1, a2, a3, a4, a5, a6, a7, a8] (.int (x + y) :: st) bc bs hp Q := Go_next (i := .iadd) rfl rfl
set_option maxRecDepth 100000 in
theorem sL_law_2685 {x : Nat} {i : Int32} : Go kL_law 2685 [a0, a1, a2, a3, a4, a5, a6, a7, a8] (.int i :: .ref x :: st) bc bs hp Q ↔ RdA hp x 0 i (fun v => Go kL_law 2686 [a0, a1, a2, a3, a4, a5, a6, a7, a8] (.int v :: st) bc bs hp Q) := Go_iald rfl
set_option maxRecDepth 100000 in
theorem sL_law_2686 {x : Nat} : Go kL_law 2686 [(.ref x), a1, a2, a3, a4, a5, a6, a7, a8] st bc bs hp Q ↔ Go kL_law 2687 [(.ref x), a1, a2, a3, a4, a5, a6, a7, a8] (.ref x :: st) bc bs hp Q := Go_next (i := .aload_n 0) rfl rfl
set_option maxRecDepth 100000 in
theorem sL_law_2687 {x : Int32} : Go kL_law 2687 [a0, a1, a2, a3, a4, (.int x), a6, a7, a8] st bc bs hp Q ↔ Go kL_law 2689 [a0, a1, a2, a3, a4, (.int x), a6, a7, a8] (.int x :: st) bc bs hp Q := Go_next (i := .iload 5) rfl rfl
set_option maxRecDepth 100000 in
theorem sL_law_2689 : Go kL_law 2689 [a0, a1, a2, a3, a4, a5, a6, a7, a8] st bc bs hp Q ↔ Go kL_law 2690 [a0, a1, a2, a3, a4, a5, a6, a7, a8] (.int 2 :: st) bc bs hp Q := Go_next (i := .iconst 2) rfl rfl
set_option maxRecDepth 100000 in
theorem sL_law_2690 {x y : Int32} : Go kL_law 2690 [a0, a1, a2, a3, a4, a5, a6, a7, a8] (.int y :: .int x :: st) bc bs hp Q ↔ Go kL_law 2691 [a0, a1, a2, a3, a4, a5, a6, a7, a8] (.int (x + y) :: st) bc bs hp Q := Go_next (i := .iadd) rfl rfl
set_option maxRecDepth 100000 in
theorem sL_law_2691 {x : Nat} {i : Int32} : Go kL_law 2691 [a0, a1, a2, a3, a4, a5, a6, a7, a8] (.int i :: .ref x :: st) bc bs hp Q ↔ RdA hp x 0 i (fun v => Go kL_law 2692 [a0, a1, a2, a3, a4, a5, a6, a7, a8] (.int v :: st) bc bs hp Q) := Go_iald rfl
set_option maxRecDepth 100000 in
theorem sL_law_2692 {x : Nat} : Go kL_law 2692 [(.ref x), a1, a2, a3, a4, a5, a6, a7, a8] st bc bs hp Q ↔ Go kL_law 2693 [(.ref x), a1, a2, a3, a4, a5, a6, a7, a8] (.ref x :: st) bc bs hp Q := Go_next (i := .aload_n 0) rfl rfl
set_option maxRecDepth 100000 in
theorem sL_law_2693 {x : Int32} : Go kL_law 2693 [a0, a1, a2, a3, a4, (.int x), a6, a7, a8] st bc bs hp Q ↔ Go kL_law 2695 [a0, a1, a2, a3, a4, (.int x), a6, a7, a8] (.int x :: st) bc bs hp Q := Go_next (i := .iload 5) rfl rfl
set_option maxRecDepth 100000 in
theorem sL_law_2695 : Go kL_law 2695 [a0, a1, a2, a3, a4, a5, a6, a7, a8] st bc bs hp Q ↔ Go kL_law 2696 [a0, a1, a2, a3, a4, a5, a6, a7, a8] (.int 3 :: st) bc bs hp Q := Go_next (i := .iconst 3) rfl rfl
set_option maxRecDepth 100000 in
theorem sL_law_2696 {x y : Int32} : Go kL_law 2696 [a0, a1, a2, a3, a4, a5, a6, a7, a8] (.int y :: .int x :: st) bc bs hp Q ↔ Go kL_law 2697 [a0, a1, a2, a3, a4, a5, a6, a7, a8] (.int (x + y) :: st) bc bs hp Q := Go_next (i := .iadd) rfl rfl
set_option maxRecDepth 100000 in
theorem sL_law_2697 {x : Nat} {i : Int32} : Go kL_law 2697 [a0, a1, a2, a3, a4, a5, a6, a7, a8] (.int i :: .ref x :: st) bc bs hp Q ↔ RdA hp x 0 i (fun v => Go kL_law 2698 [a0, a1, a2, a3, a4, a5, a6, a7, a8] (.int v :: st) bc bs hp Q) := Go_iald rfl
set_option maxRecDepth 100000 in
theorem sL_law_2698 {x : Nat} : Go kL_law 2698 [(.ref x), a1, a2, a3, a4, a5, a6, a7, a8] st bc bs hp Q ↔ Go kL_law 2699 [(.ref x), a1, a2, a3, a4, a5, a6, a7, a8] (.ref x :: st) bc bs hp Q := Go_next (i := .aload_n 0) rfl rfl
set_option maxRecDepth 100000 in
theorem sL_law_2699 {x : Int32} : Go kL_law 2699 [a0, a1, a2, a3, a4, (.int x), a6, a7, a8] st bc bs hp Q ↔ Go kL_law 2701 [a0, a1, a2, a3, a4, (.int x), a6, a7, a8] (.int x :: st) bc bs hp Q := Go_next (i := .iload 5) rfl rfl
set_option maxRecDepth 100000 in
theorem sL_law_2701 : Go kL_law 2701 [a0, a1, a2, a3, a4, a5, a6, a7, a8] st bc bs hp Q ↔ Go kL_law 2702 [a0, a1, a2, a3, a4, a5, a6, a7, a8] (.int 4 :: st) bc bs hp Q := Go_next (i := .iconst 4) rfl rfl
set_option maxRecDepth 100000 in
theorem sL_law_2702 {x y : Int32} : Go kL_law 2702 [a0, a1, a2, a3, a4, a5, a6, a7, a8] (.int y :: .int x :: st) bc bs hp Q ↔ Go kL_law 2703 [a0, a1, a2, a3, a4, a5, a6, a7, a8] (.int (x + y) :: st) bc bs hp Q := Go_next (i := .iadd) rfl rfl
set_option maxRecDepth 100000 in
theorem sL_law_2703 {x : Nat} {i : Int32} : Go kL_law 2703 [a0, a1, a2, a3, a4, a5, a6, a7, a8] (.int i :: .ref x :: st) bc bs hp Q ↔ RdA hp x 0 i (fun v => Go kL_law 2704 [a0, a1, a2, a3, a4, a5, a6, a7, a8] (.int v :: st) bc bs hp Q) := Go_iald rfl
set_option maxRecDepth 100000 in
theorem sL_law_2704 {p0 : Int32} {p1 : Int32} {p2 : Int32} {p3 : Int32} {x : Nat} : Go kL_law 2704 [a0, a1, a2, a3, a4, a5, a6, a7, a8] (.int p3 :: .int p2 :: .int p1 :: .int p0 :: .ref x :: st) bc bs hp Q ↔ Rcv hp x 8 ∧ nsum st ≤ 8 ∧ Call kX8_paletteOf [.ref x, .int p0, .int p1, .int p2, .int p3] hp (Aft kL_law 2707 [a0, a1, a2, a3, a4, a5, a6, a7, a8] st bc bs Q) := Go_invV0 rfl rfl rfl rfl rfl rfl rfl rfl rfl rfl
set_option maxRecDepth 100000 in
theorem sL_law_2707 {x : Int32} (hj : a6.category = 1) : Go kL_law 2707 [a0, a1, a2, a3, a4, a5, a6, a7, a8] (.int x :: st) bc bs hp Q ↔ Go kL_law 2709 [a0, a1, a2, a3, a4, a5, a6, (.int x), a8] st bc bs hp Q := Go_sto (i := .istore 7) (j := 7) (v := .int x) rfl rfl (Nat.le_of_ble_eq_true rfl) (decide_eq_true hj) rfl
set_option maxRecDepth 100000 in
theorem sL_law_2709 {x : Nat} : Go kL_law 2709 [a0, a1, (.ref x), a3, a4, a5, a6, a7, a8] st bc bs hp Q ↔ Go kL_law 2710 [a0, a1, (.ref x), a3, a4, a5, a6, a7, a8] (.ref x :: st) bc bs hp Q := Go_next (i := .aload_n 2) rfl rfl
set_option maxRecDepth 100000 in
theorem sL_law_2710 {x : Nat} : Go kL_law 2710 [a0, a1, a2, a3, a4, a5, a6, a7, a8] (.ref x :: st) bc bs hp Q ↔ Rcv hp x 8 ∧ nsum st ≤ 8 ∧ Call kX8_thrown [.ref x] hp (Aft kL_law 2713 [a0, a1, a2, a3, a4, a5, a6, a7, a8] st bc bs Q) := Go_invV0 rfl rfl rfl rfl rfl rfl rfl rfl rfl rfl
set_option maxRecDepth 100000 in
theorem sL_law_2713 {x : Int32} : Go kL_law 2713 [a0, a1, a2, a3, a4, a5, (.int x), a7, a8] st bc bs hp Q ↔ Go kL_law 2715 [a0, a1, a2, a3, a4, a5, (.int x), a7, a8] (.int x :: st) bc bs hp Q := Go_next (i := .iload 6) rfl rfl
set_option maxRecDepth 100000 in
theorem sL_law_2715 {x y : Int32} : Go kL_law 2715 [a0, a1, a2, a3, a4, a5, a6, a7, a8] (.int y :: .int x :: st) bc bs hp Q ↔ (x = y → Go kL_law 2720 [a0, a1, a2, a3, a4, a5, a6, a7, a8] st bc bs hp Q) ∧ (¬ x = y → Go kL_law 2718 [a0, a1, a2, a3, a4, a5, a6, a7, a8] st bc bs hp Q) := Go_ift (c := x = y) (i := .if_icmp .eq 5) rfl rfl
set_option maxRecDepth 100000 in
theorem sL_law_2718 : Go kL_law 2718 [a0, a1, a2, a3, a4, a5, a6, a7, a8] st bc bs hp Q ↔ Go kL_law 2719 [a0, a1, a2, a3, a4, a5, a6, a7, a8] (.int 0 :: st) bc bs hp Q := Go_next (i := .iconst 0) rfl rfl
set_option maxRecDepth 100000 in
theorem sL_law_2719 {x : Int32} : Go kL_law 2719 [a0, a1, a2, a3, a4, a5, a6, a7, a8] [.int x] bc bs hp Q ↔ outI kL_law x = true ∧ Q (.inl (some (.int x))) hp := Go_retIf (i := .ireturn) rfl rfl
set_option maxRecDepth 100000 in
theorem sL_law_2720 {x : Int32} : Go kL_law 2720 [a0, a1, a2, a3, a4, a5, (.int x), a7, a8] st bc bs hp Q ↔ Go kL_law 2722 [a0, a1, a2, a3, a4, a5, (.int x), a7, a8] (.int x :: st) bc bs hp Q := Go_next (i := .iload 6) rfl rfl
set_option maxRecDepth 100000 in
theorem sL_law_2722 {x : Int32} : Go kL_law 2722 [a0, a1, a2, a3, a4, a5, a6, a7, a8] (.int x :: st) bc bs hp Q ↔ (¬ x = 0 → Go kL_law 2737 [a0, a1, a2, a3, a4, a5, a6, a7, a8] st bc bs hp Q) ∧ (x = 0 → Go kL_law 2725 [a0, a1, a2, a3, a4, a5, a6, a7, a8] st bc bs hp Q) := Go_ifn (c := x = 0) (i := .ifCond .ne 15) rfl rfl
set_option maxRecDepth 100000 in
theorem sL_law_2725 {x : Nat} : Go kL_law 2725 [a0, a1, a2, (.ref x), a4, a5, a6, a7, a8] st bc bs hp Q ↔ Go kL_law 2726 [a0, a1, a2, (.ref x), a4, a5, a6, a7, a8] (.ref x :: st) bc bs hp Q := Go_next (i := .aload_n 3) rfl rfl
set_option maxRecDepth 100000 in
theorem sL_law_2726 : Go kL_law 2726 [a0, a1, a2, a3, a4, a5, a6, a7, a8] st bc bs hp Q ↔ Go kL_law 2727 [a0, a1, a2, a3, a4, a5, a6, a7, a8] (.int 0 :: st) bc bs hp Q := Go_next (i := .iconst 0) rfl rfl
set_option maxRecDepth 100000 in
theorem sL_law_2727 {x : Nat} {i : Int32} : Go kL_law 2727 [a0, a1, a2, a3, a4, a5, a6, a7, a8] (.int i :: .ref x :: st) bc bs hp Q ↔ RdL hp x i (fun v => Go kL_law 2728 [a0, a1, a2, a3, a4, a5, a6, a7, a8] (.long v :: st) bc bs hp Q) := Go_lald rfl
set_option maxRecDepth 100000 in
theorem sL_law_2728 {x : Int32} : Go kL_law 2728 [a0, a1, a2, a3, a4, a5, a6, (.int x), a8] st bc bs hp Q ↔ Go kL_law 2730 [a0, a1, a2, a3, a4, a5, a6, (.int x), a8] (.int x :: st) bc bs hp Q := Go_next (i := .iload 7) rfl rfl
set_option maxRecDepth 100000 in
theorem sL_law_2730 {x : Int32} : Go kL_law 2730 [a0, a1, a2, a3, a4, a5, a6, a7, a8] (.int x :: st) bc bs hp Q ↔ Go kL_law 2731 [a0, a1, a2, a3, a4, a5, a6, a7, a8] (.long x.toInt64 :: st) bc bs hp Q := Go_next (i := .i2l) rfl rfl
set_option maxRecDepth 100000 in
theorem sL_law_2731 {x y : Int64} : Go kL_law 2731 [a0, a1, a2, a3, a4, a5, a6, a7, a8] (.long y :: .long x :: st) bc bs hp Q ↔ Go kL_law 2732 [a0, a1, a2, a3, a4, a5, a6, a7, a8] (.int (lg_cmp x y) :: st) bc bs hp Q := Go_next (i := .lcmp) rfl rfl
set_option maxRecDepth 100000 in
theorem sL_law_2732 {x : Int32} : Go kL_law 2732 [a0, a1, a2, a3, a4, a5, a6, a7, a8] (.int x :: st) bc bs hp Q ↔ (x = 0 → Go kL_law 2737 [a0, a1, a2, a3, a4, a5, a6, a7, a8] st bc bs hp Q) ∧ (¬ x = 0 → Go kL_law 2735 [a0, a1, a2, a3, a4, a5, a6, a7, a8] st bc bs hp Q) := Go_ift (c := x = 0) (i := .ifCond .eq 5) rfl rfl
set_option maxRecDepth 100000 in
theorem sL_law_2735 : Go kL_law 2735 [a0, a1, a2, a3, a4, a5, a6, a7, a8] st bc bs hp Q ↔ Go kL_law 2736 [a0, a1, a2, a3, a4, a5, a6, a7, a8] (.int 0 :: st) bc bs hp Q := Go_next (i := .iconst 0) rfl rfl
set_option maxRecDepth 100000 in
theorem sL_law_2736 {x : Int32} : Go kL_law 2736 [a0, a1, a2, a3, a4, a5, a6, a7, a8] [.int x] bc bs hp Q ↔ outI kL_law x = true ∧ Q (.inl (some (.int x))) hp := Go_retIf (i := .ireturn) rfl rfl
set_option maxRecDepth 100000 in
theorem sL_law_2737 : Go kL_law 2737 [a0, a1, a2, a3, a4, a5, a6, a7, a8] st bc bs hp Q ↔ Go kL_law 3086 [a0, a1, a2, a3, a4, a5, a6, a7, a8] st bc bs hp Q := Go_next (i := .goto 349) rfl rfl
set_option maxRecDepth 100000 in
theorem sL_law_2740 {x : Nat} : Go kL_law 2740 [a0, (.ref x), a2, a3, a4, a5, a6, a7, a8] st bc bs hp Q ↔ Go kL_law 2741 [a0, (.ref x), a2, a3, a4, a5, a6, a7, a8] (.ref x :: st) bc bs hp Q := Go_next (i := .aload_n 1) rfl rfl
set_option maxRecDepth 100000 in
theorem sL_law_2741 {x : Nat} : Go kL_law 2741 [(.ref x), a1, a2, a3, a4, a5, a6, a7, a8] st bc bs hp Q ↔ Go kL_law 2742 [(.ref x), a1, a2, a3, a4, a5, a6, a7, a8] (.ref x :: st) bc bs hp Q := Go_next (i := .aload_n 0) rfl rfl
set_option maxRecDepth 100000 in
theorem sL_law_2742 {x : Int32} : Go kL_law 2742 [a0, a1, a2, a3, a4, (.int x), a6, a7, a8] st bc bs hp Q ↔ Go kL_law 2744 [a0, a1, a2, a3, a4, (.int x), a6, a7, a8] (.int x :: st) bc bs hp Q := Go_next (i := .iload 5) rfl rfl
set_option maxRecDepth 100000 in
theorem sL_law_2744 : Go kL_law 2744 [a0, a1, a2, a3, a4, a5, a6, a7, a8] st bc bs hp Q ↔ Go kL_law 2745 [a0, a1, a2, a3, a4, a5, a6, a7, a8] (.int 1 :: st) bc bs hp Q := Go_next (i := .iconst 1) rfl rfl
set_option maxRecDepth 100000 in
theorem sL_law_2745 {x y : Int32} : Go kL_law 2745 [a0, a1, a2, a3, a4, a5, a6, a7, a8] (.int y :: .int x :: st) bc bs hp Q ↔ Go kL_law 2746 [a0, a1, a2, a3, a4, a5, a6, a7, a8] (.int (x + y) :: st) bc bs hp Q := Go_next (i := .iadd) rfl rfl
set_option maxRecDepth 100000 in
theorem sL_law_2746 {x : Nat} {i : Int32} : Go kL_law 2746 [a0, a1, a2, a3, a4, a5, a6, a7, a8] (.int i :: .ref x :: st) bc bs hp Q ↔ RdA hp x 0 i (fun v => Go kL_law 2747 [a0, a1, a2, a3, a4, a5, a6, a7, a8] (.int v :: st) bc bs hp Q) := Go_iald rfl
set_option maxRecDepth 100000 in
theorem sL_law_2747 {x : Nat} : Go kL_law 2747 [a0, a1, a2, (.ref x), a4, a5, a6, a7, a8] st bc bs hp Q ↔ Go kL_law 2748 [a0, a1, a2, (.ref x), a4, a5, a6, a7, a8] (.ref x :: st) bc bs hp Q := Go_next (i := .aload_n 3) rfl rfl
set_option maxRecDepth 100000 in
theorem sL_law_2748 {p0 : Nat} {p1 : Int32} {p2 : Nat} : Go kL_law 2748 [a0, a1, a2, a3, a4, a5, a6, a7, a8] (.ref p2 :: .int p1 :: .ref p0 :: st) bc bs hp Q ↔ (2 ≤ bc ∧ 12 ≤ bs ∧ nsum st ≤ 8) ∧ Call kL_cueOf [.ref p0, .int p1, .ref p2] hp (Aft kL_law 2751 [a0, a1, a2, a3, a4, a5, a6, a7, a8] st (bc - 2) (bs - 12) Q) := Go_inv (i := .invokestatic 276) rfl rfl rfl rfl rfl rfl
set_option maxRecDepth 100000 in
theorem sL_law_2751 {x : Int32} (hj : a5.category = 1) : Go kL_law 2751 [a0, a1, a2, a3, a4, a5, a6, a7, a8] (.int x :: st) bc bs hp Q ↔ Go kL_law 2753 [a0, a1, a2, a3, a4, a5, (.int x), a7, a8] st bc bs hp Q := Go_sto (i := .istore 6) (j := 6) (v := .int x) rfl rfl (Nat.le_of_ble_eq_true rfl) (decide_eq_true hj) rfl
set_option maxRecDepth 100000 in
theorem sL_law_2753 {x : Nat} : Go kL_law 2753 [a0, a1, (.ref x), a3, a4, a5, a6, a7, a8] st bc bs hp Q ↔ Go kL_law 2754 [a0, a1, (.ref x), a3, a4, a5, a6, a7, a8] (.ref x :: st) bc bs hp Q := Go_next (i := .aload_n 2) rfl rfl
set_option maxRecDepth 100000 in
theorem sL_law_2754 {x : Nat} : Go kL_law 2754 [(.ref x), a1, a2, a3, a4, a5, a6, a7, a8] st bc bs hp Q ↔ Go kL_law 2755 [(.ref x), a1, a2, a3, a4, a5, a6, a7, a8] (.ref x :: st) bc bs hp Q := Go_next (i := .aload_n 0) rfl rfl
set_option maxRecDepth 100000 in
theorem sL_law_2755 {x : Int32} : Go kL_law 2755 [a0, a1, a2, a3, a4, (.int x), a6, a7, a8] st bc bs hp Q ↔ Go kL_law 2757 [a0, a1, a2, a3, a4, (.int x), a6, a7, a8] (.int x :: st) bc bs hp Q := Go_next (i := .iload 5) rfl rfl
set_option maxRecDepth 100000 in
theorem sL_law_2757 : Go kL_law 2757 [a0, a1, a2, a3, a4, a5, a6, a7, a8] st bc bs hp Q ↔ Go kL_law 2758 [a0, a1, a2, a3, a4, a5, a6, a7, a8] (.int 1 :: st) bc bs hp Q := Go_next (i := .iconst 1) rfl rfl
set_option maxRecDepth 100000 in
theorem sL_law_2758 {x y : Int32} : Go kL_law 2758 [a0, a1, a2, a3, a4, a5, a6, a7, a8] (.int y :: .int x :: st) bc bs hp Q ↔ Go kL_law 2759 [a0, a1, a2, a3, a4, a5, a6, a7, a8] (.int (x + y) :: st) bc bs hp Q := Go_next (i := .iadd) rfl rfl
set_option maxRecDepth 100000 in
theorem sL_law_2759 {x : Nat} {i : Int32} : Go kL_law 2759 [a0, a1, a2, a3, a4, a5, a6, a7, a8] (.int i :: .ref x :: st) bc bs hp Q ↔ RdA hp x 0 i (fun v => Go kL_law 2760 [a0, a1, a2, a3, a4, a5, a6, a7, a8] (.int v :: st) bc bs hp Q) := Go_iald rfl
set_option maxRecDepth 100000 in
theorem sL_law_2760 {p0 : Int32} {x : Nat} : Go kL_law 2760 [a0, a1, a2, a3, a4, a5, a6, a7, a8] (.int p0 :: .ref x :: st) bc bs hp Q ↔ Rcv hp x 8 ∧ nsum st ≤ 8 ∧ Call kX8_cueOf [.ref x, .int p0] hp (Aft kL_law 2763 [a0, a1, a2, a3, a4, a5, a6, a7, a8] st bc bs Q) := Go_invV0 rfl rfl rfl rfl rfl rfl rfl rfl rfl rfl
set_option maxRecDepth 100000 in
theorem sL_law_2763 {x : Int32} (hj : a6.category = 1) : Go kL_law 2763 [a0, a1, a2, a3, a4, a5, a6, a7, a8] (.int x :: st) bc bs hp Q ↔ Go kL_law 2765 [a0, a1, a2, a3, a4, a5, a6, (.int x), a8] st bc bs hp Q := Go_sto (i := .istore 7) (j := 7) (v := .int x) rfl rfl (Nat.le_of_ble_eq_true rfl) (decide_eq_true hj) rfl
set_option maxRecDepth 100000 in
theorem sL_law_2765 {x : Nat} : Go kL_law 2765 [a0, a1, (.ref x), a3, a4, a5, a6, a7, a8] st bc bs hp Q ↔ Go kL_law 2766 [a0, a1, (.ref x), a3, a4, a5, a6, a7, a8] (.ref x :: st) bc bs hp Q := Go_next (i := .aload_n 2) rfl rfl
set_option maxRecDepth 100000 in
theorem sL_law_2766 {x : Nat} : Go kL_law 2766 [a0, a1, a2, a3, a4, a5, a6, a7, a8] (.ref x :: st) bc bs hp Q ↔ Rcv hp x 8 ∧ nsum st ≤ 8 ∧ Call kX8_thrown [.ref x] hp (Aft kL_law 2769 [a0, a1, a2, a3, a4, a5, a6, a7, a8] st bc bs Q) := Go_invV0 rfl rfl rfl rfl rfl rfl rfl rfl rfl rfl
set_option maxRecDepth 100000 in
theorem sL_law_2769 {x : Int32} : Go kL_law 2769 [a0, a1, a2, a3, a4, a5, (.int x), a7, a8] st bc bs hp Q ↔ Go kL_law 2771 [a0, a1, a2, a3, a4, a5, (.int x), a7, a8] (.int x :: st) bc bs hp Q := Go_next (i := .iload 6) rfl rfl
set_option maxRecDepth 100000 in
theorem sL_law_2771 {x y : Int32} : Go kL_law 2771 [a0, a1, a2, a3, a4, a5, a6, a7, a8] (.int y :: .int x :: st) bc bs hp Q ↔ (x = y → Go kL_law 2776 [a0, a1, a2, a3, a4, a5, a6, a7, a8] st bc bs hp Q) ∧ (¬ x = y → Go kL_law 2774 [a0, a1, a2, a3, a4, a5, a6, a7, a8] st bc bs hp Q) := Go_ift (c := x = y) (i := .if_icmp .eq 5) rfl rfl
set_option maxRecDepth 100000 in
theorem sL_law_2774 : Go kL_law 2774 [a0, a1, a2, a3, a4, a5, a6, a7, a8] st bc bs hp Q ↔ Go kL_law 2775 [a0, a1, a2, a3, a4, a5, a6, a7, a8] (.int 0 :: st) bc bs hp Q := Go_next (i := .iconst 0) rfl rfl
set_option maxRecDepth 100000 in
theorem sL_law_2775 {x : Int32} : Go kL_law 2775 [a0, a1, a2, a3, a4, a5, a6, a7, a8] [.int x] bc bs hp Q ↔ outI kL_law x = true ∧ Q (.inl (some (.int x))) hp := Go_retIf (i := .ireturn) rfl rfl
set_option maxRecDepth 100000 in
theorem sL_law_2776 {x : Int32} : Go kL_law 2776 [a0, a1, a2, a3, a4, a5, (.int x), a7, a8] st bc bs hp Q ↔ Go kL_law 2778 [a0, a1, a2, a3, a4, a5, (.int x), a7, a8] (.int x :: st) bc bs hp Q := Go_next (i := .iload 6) rfl rfl
set_option maxRecDepth 100000 in
theorem sL_law_2778 {x : Int32} : Go kL_law 2778 [a0, a1, a2, a3, a4, a5, a6, a7, a8] (.int x :: st) bc bs hp Q ↔ (¬ x = 0 → Go kL_law 2793 [a0, a1, a2, a3, a4, a5, a6, a7, a8] st bc bs hp Q) ∧ (x = 0 → Go kL_law 2781 [a0, a1, a2, a3, a4, a5, a6, a7, a8] st bc bs hp Q) := Go_ifn (c := x = 0) (i := .ifCond .ne 15) rfl rfl
set_option maxRecDepth 100000 in
theorem sL_law_2781 {x : Nat} : Go kL_law 2781 [a0, a1, a2, (.ref x), a4, a5, a6, a7, a8] st bc bs hp Q ↔ Go kL_law 2782 [a0, a1, a2, (.ref x), a4, a5, a6, a7, a8] (.ref x :: st) bc bs hp Q := Go_next (i := .aload_n 3) rfl rfl
set_option maxRecDepth 100000 in
theorem sL_law_2782 : Go kL_law 2782 [a0, a1, a2, a3, a4, a5, a6, a7, a8] st bc bs hp Q ↔ Go kL_law 2783 [a0, a1, a2, a3, a4, a5, a6, a7, a8] (.int 0 :: st) bc bs hp Q := Go_next (i := .iconst 0) rfl rfl
set_option maxRecDepth 100000 in
theorem sL_law_2783 {x : Nat} {i : Int32} : Go kL_law 2783 [a0, a1, a2, a3, a4, a5, a6, a7, a8] (.int i :: .ref x :: st) bc bs hp Q ↔ RdL hp x i (fun v => Go kL_law 2784 [a0, a1, a2, a3, a4, a5, a6, a7, a8] (.long v :: st) bc bs hp Q) := Go_lald rfl
set_option maxRecDepth 100000 in
theorem sL_law_2784 {x : Int32} : Go kL_law 2784 [a0, a1, a2, a3, a4, a5, a6, (.int x), a8] st bc bs hp Q ↔ Go kL_law 2786 [a0, a1, a2, a3, a4, a5, a6, (.int x), a8] (.int x :: st) bc bs hp Q := Go_next (i := .iload 7) rfl rfl
set_option maxRecDepth 100000 in
theorem sL_law_2786 {x : Int32} : Go kL_law 2786 [a0, a1, a2, a3, a4, a5, a6, a7, a8] (.int x :: st) bc bs hp Q ↔ Go kL_law 2787 [a0, a1, a2, a3, a4, a5, a6, a7, a8] (.long x.toInt64 :: st) bc bs hp Q := Go_next (i := .i2l) rfl rfl
set_option maxRecDepth 100000 in
theorem sL_law_2787 {x y : Int64} : Go kL_law 2787 [a0, a1, a2, a3, a4, a5, a6, a7, a8] (.long y :: .long x :: st) bc bs hp Q ↔ Go kL_law 2788 [a0, a1, a2, a3, a4, a5, a6, a7, a8] (.int (lg_cmp x y) :: st) bc bs hp Q := Go_next (i := .lcmp) rfl rfl
set_option maxRecDepth 100000 in
theorem sL_law_2788 {x : Int32} : Go kL_law 2788 [a0, a1, a2, a3, a4, a5, a6, a7, a8] (.int x :: st) bc bs hp Q ↔ (x = 0 → Go kL_law 2793 [a0, a1, a2, a3, a4, a5, a6, a7, a8] st bc bs hp Q) ∧ (¬ x = 0 → Go kL_law 2791 [a0, a1, a2, a3, a4, a5, a6, a7, a8] st bc bs hp Q) := Go_ift (c := x = 0) (i := .ifCond .eq 5) rfl rfl
set_option maxRecDepth 100000 in
theorem sL_law_2791 : Go kL_law 2791 [a0, a1, a2, a3, a4, a5, a6, a7, a8] st bc bs hp Q ↔ Go kL_law 2792 [a0, a1, a2, a3, a4, a5, a6, a7, a8] (.int 0 :: st) bc bs hp Q := Go_next (i := .iconst 0) rfl rfl
set_option maxRecDepth 100000 in
theorem sL_law_2792 {x : Int32} : Go kL_law 2792 [a0, a1, a2, a3, a4, a5, a6, a7, a8] [.int x] bc bs hp Q ↔ outI kL_law x = true ∧ Q (.inl (some (.int x))) hp := Go_retIf (i := .ireturn) rfl rfl
set_option maxRecDepth 100000 in
theorem sL_law_2793 : Go kL_law 2793 [a0, a1, a2, a3, a4, a5, a6, a7, a8] st bc bs hp Q ↔ Go kL_law 3086 [a0, a1, a2, a3, a4, a5, a6, a7, a8] st bc bs hp Q := Go_next (i := .goto 293) rfl rfl
set_option maxRecDepth 100000 in
theorem sL_law_2796 {x : Nat} : Go kL_law 2796 [a0, (.ref x), a2, a3, a4, a5, a6, a7, a8] st bc bs hp Q ↔ Go kL_law 2797 [a0, (.ref x), a2, a3, a4, a5, a6, a7, a8] (.ref x :: st) bc bs hp Q := Go_next (i := .aload_n 1) rfl rfl
set_option maxRecDepth 100000 in
theorem sL_law_2797 {x : Nat} : Go kL_law 2797 [(.ref x), a1, a2, a3, a4, a5, a6, a7, a8] st bc bs hp Q ↔ Go kL_law 2798 [(.ref x), a1, a2, a3, a4, a5, a6, a7, a8] (.ref x :: st) bc bs hp Q := Go_next (i := .aload_n 0) rfl rfl
set_option maxRecDepth 100000 in
theorem sL_law_2798 {x : Int32} : Go kL_law 2798 [a0, a1, a2, a3, a4, (.int x), a6, a7, a8] st bc bs hp Q ↔ Go kL_law 2800 [a0, a1, a2, a3, a4, (.int x), a6, a7, a8] (.int x :: st) bc bs hp Q := Go_next (i := .iload 5) rfl rfl
set_option maxRecDepth 100000 in
theorem sL_law_2800 : Go kL_law 2800 [a0, a1, a2, a3, a4, a5, a6, a7, a8] st bc bs hp Q ↔ Go kL_law 2801 [a0, a1, a2, a3, a4, a5, a6, a7, a8] (.int 1 :: st) bc bs hp Q := Go_next (i := .iconst 1) rfl rfl
set_option maxRecDepth 100000 in
theorem sL_law_2801 {x y : Int32} : Go kL_law 2801 [a0, a1, a2, a3, a4, a5, a6, a7, a8] (.int y :: .int x :: st) bc bs hp Q ↔ Go kL_law 2802 [a0, a1, a2, a3, a4, a5, a6, a7, a8] (.int (x + y) :: st) bc bs hp Q := Go_next (i := .iadd) rfl rfl
set_option maxRecDepth 100000 in
theorem sL_law_2802 {x : Nat} {i : Int32} : Go kL_law 2802 [a0, a1, a2, a3, a4, a5, a6, a7, a8] (.int i :: .ref x :: st) bc bs hp Q ↔ RdA hp x 0 i (fun v => Go kL_law 2803 [a0, a1, a2, a3, a4, a5, a6, a7, a8] (.int v :: st) bc bs hp Q) := Go_iald rfl
set_option maxRecDepth 100000 in
theorem sL_law_2803 {x : Nat} : Go kL_law 2803 [a0, a1, a2, (.ref x), a4, a5, a6, a7, a8] st bc bs hp Q ↔ Go kL_law 2804 [a0, a1, a2, (.ref x), a4, a5, a6, a7, a8] (.ref x :: st) bc bs hp Q := Go_next (i := .aload_n 3) rfl rfl
set_option maxRecDepth 100000 in
theorem sL_law_2804 {p0 : Nat} {p1 : Int32} {p2 : Nat} : Go kL_law 2804 [a0, a1, a2, a3, a4, a5, a6, a7, a8] (.ref p2 :: .int p1 :: .ref p0 :: st) bc bs hp Q ↔ (1 ≤ bc ∧ 6 ≤ bs ∧ nsum st ≤ 8) ∧ Call kL_cues [.ref p0, .int p1, .ref p2] hp (Aft kL_law 2807 [a0, a1, a2, a3, a4, a5, a6, a7, a8] st (bc - 1) (bs - 6) Q) := Go_inv (i := .invokestatic 279) rfl rfl rfl rfl rfl rfl
set_option maxRecDepth 100000 in
theorem sL_law_2807 {x : Int32} (hj : a5.category = 1) : Go kL_law 2807 [a0, a1, a2, a3, a4, a5, a6, a7, a8] (.int x :: st) bc bs hp Q ↔ Go kL_law 2809 [a0, a1, a2, a3, a4, a5, (.int x), a7, a8] st bc bs hp Q := Go_sto (i := .istore 6) (j := 6) (v := .int x) rfl rfl (Nat.le_of_ble_eq_true rfl) (decide_eq_true hj) rfl
set_option maxRecDepth 100000 in
theorem sL_law_2809 {x : Nat} : Go kL_law 2809 [a0, a1, (.ref x), a3, a4, a5, a6, a7, a8] st bc bs hp Q ↔ Go kL_law 2810 [a0, a1, (.ref x), a3, a4, a5, a6, a7, a8] (.ref x :: st) bc bs hp Q := Go_next (i := .aload_n 2) rfl rfl
set_option maxRecDepth 100000 in
theorem sL_law_2810 {x : Nat} : Go kL_law 2810 [(.ref x), a1, a2, a3, a4, a5, a6, a7, a8] st bc bs hp Q ↔ Go kL_law 2811 [(.ref x), a1, a2, a3, a4, a5, a6, a7, a8] (.ref x :: st) bc bs hp Q := Go_next (i := .aload_n 0) rfl rfl
set_option maxRecDepth 100000 in
theorem sL_law_2811 {x : Int32} : Go kL_law 2811 [a0, a1, a2, a3, a4, (.int x), a6, a7, a8] st bc bs hp Q ↔ Go kL_law 2813 [a0, a1, a2, a3, a4, (.int x), a6, a7, a8] (.int x :: st) bc bs hp Q := Go_next (i := .iload 5) rfl rfl
set_option maxRecDepth 100000 in
theorem sL_law_2813 : Go kL_law 2813 [a0, a1, a2, a3, a4, a5, a6, a7, a8] st bc bs hp Q ↔ Go kL_law 2814 [a0, a1, a2, a3, a4, a5, a6, a7, a8] (.int 1 :: st) bc bs hp Q := Go_next (i := .iconst 1) rfl rfl
set_option maxRecDepth 100000 in
theorem sL_law_2814 {x y : Int32} : Go kL_law 2814 [a0, a1, a2, a3, a4, a5, a6, a7, a8] (.int y :: .int x :: st) bc bs hp Q ↔ Go kL_law 2815 [a0, a1, a2, a3, a4, a5, a6, a7, a8] (.int (x + y) :: st) bc bs hp Q := Go_next (i := .iadd) rfl rfl
set_option maxRecDepth 100000 in
theorem sL_law_2815 {x : Nat} {i : Int32} : Go kL_law 2815 [a0, a1, a2, a3, a4, a5, a6, a7, a8] (.int i :: .ref x :: st) bc bs hp Q ↔ RdA hp x 0 i (fun v => Go kL_law 2816 [a0, a1, a2, a3, a4, a5, a6, a7, a8] (.int v :: st) bc bs hp Q) := Go_iald rfl
set_option maxRecDepth 100000 in
theorem sL_law_2816 {p0 : Int32} {x : Nat} : Go kL_law 2816 [a0, a1, a2, a3, a4, a5, a6, a7, a8] (.int p0 :: .ref x :: st) bc bs hp Q ↔ Rcv hp x 8 ∧ nsum st ≤ 8 ∧ Call kX8_cues [.ref x, .int p0] hp (Aft kL_law 2819 [a0, a1, a2, a3, a4, a5, a6, a7, a8] st bc bs Q) := Go_invV0 rfl rfl rfl rfl rfl rfl rfl rfl rfl rfl
set_option maxRecDepth 100000 in
theorem sL_law_2819 {x : Int32} (hj : a6.category = 1) : Go kL_law 2819 [a0, a1, a2, a3, a4, a5, a6, a7, a8] (.int x :: st) bc bs hp Q ↔ Go kL_law 2821 [a0, a1, a2, a3, a4, a5, a6, (.int x), a8] st bc bs hp Q := Go_sto (i := .istore 7) (j := 7) (v := .int x) rfl rfl (Nat.le_of_ble_eq_true rfl) (decide_eq_true hj) rfl
set_option maxRecDepth 100000 in
theorem sL_law_2821 {x : Nat} : Go kL_law 2821 [a0, a1, (.ref x), a3, a4, a5, a6, a7, a8] st bc bs hp Q ↔ Go kL_law 2822 [a0, a1, (.ref x), a3, a4, a5, a6, a7, a8] (.ref x :: st) bc bs hp Q := Go_next (i := .aload_n 2) rfl rfl
set_option maxRecDepth 100000 in
theorem sL_law_2822 {x : Nat} : Go kL_law 2822 [a0, a1, a2, a3, a4, a5, a6, a7, a8] (.ref x :: st) bc bs hp Q ↔ Rcv hp x 8 ∧ nsum st ≤ 8 ∧ Call kX8_thrown [.ref x] hp (Aft kL_law 2825 [a0, a1, a2, a3, a4, a5, a6, a7, a8] st bc bs Q) := Go_invV0 rfl rfl rfl rfl rfl rfl rfl rfl rfl rfl
set_option maxRecDepth 100000 in
theorem sL_law_2825 {x : Int32} : Go kL_law 2825 [a0, a1, a2, a3, a4, a5, (.int x), a7, a8] st bc bs hp Q ↔ Go kL_law 2827 [a0, a1, a2, a3, a4, a5, (.int x), a7, a8] (.int x :: st) bc bs hp Q := Go_next (i := .iload 6) rfl rfl
set_option maxRecDepth 100000 in
theorem sL_law_2827 {x y : Int32} : Go kL_law 2827 [a0, a1, a2, a3, a4, a5, a6, a7, a8] (.int y :: .int x :: st) bc bs hp Q ↔ (x = y → Go kL_law 2832 [a0, a1, a2, a3, a4, a5, a6, a7, a8] st bc bs hp Q) ∧ (¬ x = y → Go kL_law 2830 [a0, a1, a2, a3, a4, a5, a6, a7, a8] st bc bs hp Q) := Go_ift (c := x = y) (i := .if_icmp .eq 5) rfl rfl
set_option maxRecDepth 100000 in
theorem sL_law_2830 : Go kL_law 2830 [a0, a1, a2, a3, a4, a5, a6, a7, a8] st bc bs hp Q ↔ Go kL_law 2831 [a0, a1, a2, a3, a4, a5, a6, a7, a8] (.int 0 :: st) bc bs hp Q := Go_next (i := .iconst 0) rfl rfl
set_option maxRecDepth 100000 in
theorem sL_law_2831 {x : Int32} : Go kL_law 2831 [a0, a1, a2, a3, a4, a5, a6, a7, a8] [.int x] bc bs hp Q ↔ outI kL_law x = true ∧ Q (.inl (some (.int x))) hp := Go_retIf (i := .ireturn) rfl rfl
set_option maxRecDepth 100000 in
theorem sL_law_2832 {x : Int32} : Go kL_law 2832 [a0, a1, a2, a3, a4, a5, (.int x), a7, a8] st bc bs hp Q ↔ Go kL_law 2834 [a0, a1, a2, a3, a4, a5, (.int x), a7, a8] (.int x :: st) bc bs hp Q := Go_next (i := .iload 6) rfl rfl
set_option maxRecDepth 100000 in
theorem sL_law_2834 {x : Int32} : Go kL_law 2834 [a0, a1, a2, a3, a4, a5, a6, a7, a8] (.int x :: st) bc bs hp Q ↔ (¬ x = 0 → Go kL_law 2849 [a0, a1, a2, a3, a4, a5, a6, a7, a8] st bc bs hp Q) ∧ (x = 0 → Go kL_law 2837 [a0, a1, a2, a3, a4, a5, a6, a7, a8] st bc bs hp Q) := Go_ifn (c := x = 0) (i := .ifCond .ne 15) rfl rfl
set_option maxRecDepth 100000 in
theorem sL_law_2837 {x : Nat} : Go kL_law 2837 [a0, a1, a2, (.ref x), a4, a5, a6, a7, a8] st bc bs hp Q ↔ Go kL_law 2838 [a0, a1, a2, (.ref x), a4, a5, a6, a7, a8] (.ref x :: st) bc bs hp Q := Go_next (i := .aload_n 3) rfl rfl
set_option maxRecDepth 100000 in
theorem sL_law_2838 : Go kL_law 2838 [a0, a1, a2, a3, a4, a5, a6, a7, a8] st bc bs hp Q ↔ Go kL_law 2839 [a0, a1, a2, a3, a4, a5, a6, a7, a8] (.int 0 :: st) bc bs hp Q := Go_next (i := .iconst 0) rfl rfl
set_option maxRecDepth 100000 in
theorem sL_law_2839 {x : Nat} {i : Int32} : Go kL_law 2839 [a0, a1, a2, a3, a4, a5, a6, a7, a8] (.int i :: .ref x :: st) bc bs hp Q ↔ RdL hp x i (fun v => Go kL_law 2840 [a0, a1, a2, a3, a4, a5, a6, a7, a8] (.long v :: st) bc bs hp Q) := Go_lald rfl
set_option maxRecDepth 100000 in
theorem sL_law_2840 {x : Int32} : Go kL_law 2840 [a0, a1, a2, a3, a4, a5, a6, (.int x), a8] st bc bs hp Q ↔ Go kL_law 2842 [a0, a1, a2, a3, a4, a5, a6, (.int x), a8] (.int x :: st) bc bs hp Q := Go_next (i := .iload 7) rfl rfl
set_option maxRecDepth 100000 in
theorem sL_law_2842 {x : Int32} : Go kL_law 2842 [a0, a1, a2, a3, a4, a5, a6, a7, a8] (.int x :: st) bc bs hp Q ↔ Go kL_law 2843 [a0, a1, a2, a3, a4, a5, a6, a7, a8] (.long x.toInt64 :: st) bc bs hp Q := Go_next (i := .i2l) rfl rfl
set_option maxRecDepth 100000 in
theorem sL_law_2843 {x y : Int64} : Go kL_law 2843 [a0, a1, a2, a3, a4, a5, a6, a7, a8] (.long y :: .long x :: st) bc bs hp Q ↔ Go kL_law 2844 [a0, a1, a2, a3, a4, a5, a6, a7, a8] (.int (lg_cmp x y) :: st) bc bs hp Q := Go_next (i := .lcmp) rfl rfl
set_option maxRecDepth 100000 in
theorem sL_law_2844 {x : Int32} : Go kL_law 2844 [a0, a1, a2, a3, a4, a5, a6, a7, a8] (.int x :: st) bc bs hp Q ↔ (x = 0 → Go kL_law 2849 [a0, a1, a2, a3, a4, a5, a6, a7, a8] st bc bs hp Q) ∧ (¬ x = 0 → Go kL_law 2847 [a0, a1, a2, a3, a4, a5, a6, a7, a8] st bc bs hp Q) := Go_ift (c := x = 0) (i := .ifCond .eq 5) rfl rfl
set_option maxRecDepth 100000 in
theorem sL_law_2847 : Go kL_law 2847 [a0, a1, a2, a3, a4, a5, a6, a7, a8] st bc bs hp Q ↔ Go kL_law 2848 [a0, a1, a2, a3, a4, a5, a6, a7, a8] (.int 0 :: st) bc bs hp Q := Go_next (i := .iconst 0) rfl rfl
set_option maxRecDepth 100000 in
theorem sL_law_2848 {x : Int32} : Go kL_law 2848 [a0, a1, a2, a3, a4, a5, a6, a7, a8] [.int x] bc bs hp Q ↔ outI kL_law x = true ∧ Q (.inl (some (.int x))) hp := Go_retIf (i := .ireturn) rfl rfl
set_option maxRecDepth 100000 in
theorem sL_law_2849 : Go kL_law 2849 [a0, a1, a2, a3, a4, a5, a6, a7, a8] st bc bs hp Q ↔ Go kL_law 3086 [a0, a1, a2, a3, a4, a5, a6, a7, a8] st bc bs hp Q := Go_next (i := .goto 237) rfl rfl
set_option maxRecDepth 100000 in
theorem sL_law_2852 {x : Nat} : Go kL_law 2852 [a0, (.ref x), a2, a3, a4, a5, a6, a7, a8] st bc bs hp Q ↔ Go kL_law 2853 [a0, (.ref x), a2, a3, a4, a5, a6, a7, a8] (.ref x :: st) bc bs hp Q := Go_next (i := .aload_n 1) rfl rfl
set_option maxRecDepth 100000 in
theorem sL_law_2853 {x : Nat} : Go kL_law 2853 [(.ref x), a1, a2, a3, a4, a5, a6, a7, a8] st bc bs hp Q ↔ Go kL_law 2854 [(.ref x), a1, a2, a3, a4, a5, a6, a7, a8] (.ref x :: st) bc bs hp Q := Go_next (i := .aload_n 0) rfl rfl
set_option maxRecDepth 100000 in
theorem sL_law_2854 {x : Int32} : Go kL_law 2854 [a0, a1, a2, a3, a4, (.int x), a6, a7, a8] st bc bs hp Q ↔ Go kL_law 2856 [a0, a1, a2, a3, a4, (.int x), a6, a7, a8] (.int x :: st) bc bs hp Q := Go_next (i := .iload 5) rfl rfl
set_option maxRecDepth 100000 in
theorem sL_law_2856 : Go kL_law 2856 [a0, a1, a2, a3, a4, a5, a6, a7, a8] st bc bs hp Q ↔ Go kL_law 2857 [a0, a1, a2, a3, a4, a5, a6, a7, a8] (.int 1 :: st) bc bs hp Q := Go_next (i := .iconst 1) rfl rfl
set_option maxRecDepth 100000 in
theorem sL_law_2857 {x y : Int32} : Go kL_law 2857 [a0, a1, a2, a3, a4, a5, a6, a7, a8] (.int y :: .int x :: st) bc bs hp Q ↔ Go kL_law 2858 [a0, a1, a2, a3, a4, a5, a6, a7, a8] (.int (x + y) :: st) bc bs hp Q := Go_next (i := .iadd) rfl rfl
set_option maxRecDepth 100000 in
theorem sL_law_2858 {x : Nat} {i : Int32} : Go kL_law 2858 [a0, a1, a2, a3, a4, a5, a6, a7, a8] (.int i :: .ref x :: st) bc bs hp Q ↔ RdA hp x 0 i (fun v => Go kL_law 2859 [a0, a1, a2, a3, a4, a5, a6, a7, a8] (.int v :: st) bc bs hp Q) := Go_iald rfl
set_option maxRecDepth 100000 in
theorem sL_law_2859 {x : Nat} : Go kL_law 2859 [a0, a1, a2, (.ref x), a4, a5, a6, a7, a8] st bc bs hp Q ↔ Go kL_law 2860 [a0, a1, a2, (.ref x), a4, a5, a6, a7, a8] (.ref x :: st) bc bs hp Q := Go_next (i := .aload_n 3) rfl rfl
set_option maxRecDepth 100000 in
theorem sL_law_2860 {p0 : Nat} {p1 : Int32} {p2 : Nat} : Go kL_law 2860 [a0, a1, a2, a3, a4, a5, a6, a7, a8] (.ref p2 :: .int p1 :: .ref p0 :: st) bc bs hp Q ↔ (1 ≤ bc ∧ 6 ≤ bs ∧ nsum st ≤ 8) ∧ Call kL_isFading [.ref p0, .int p1, .ref p2] hp (Aft kL_law 2863 [a0, a1, a2, a3, a4, a5, a6, a7, a8] st (bc - 1) (bs - 6) Q) := Go_inv (i := .invokestatic 282) rfl rfl rfl rfl rfl rfl
set_option maxRecDepth 100000 in
theorem sL_law_2863 {x : Int32} (hj : a5.category = 1) : Go kL_law 2863 [a0, a1, a2, a3, a4, a5, a6, a7, a8] (.int x :: st) bc bs hp Q ↔ Go kL_law 2865 [a0, a1, a2, a3, a4, a5, (.int x), a7, a8] st bc bs hp Q := Go_sto (i := .istore 6) (j := 6) (v := .int x) rfl rfl (Nat.le_of_ble_eq_true rfl) (decide_eq_true hj) rfl
set_option maxRecDepth 100000 in
theorem sL_law_2865 {x : Nat} : Go kL_law 2865 [a0, a1, (.ref x), a3, a4, a5, a6, a7, a8] st bc bs hp Q ↔ Go kL_law 2866 [a0, a1, (.ref x), a3, a4, a5, a6, a7, a8] (.ref x :: st) bc bs hp Q := Go_next (i := .aload_n 2) rfl rfl
set_option maxRecDepth 100000 in
theorem sL_law_2866 {x : Nat} : Go kL_law 2866 [(.ref x), a1, a2, a3, a4, a5, a6, a7, a8] st bc bs hp Q ↔ Go kL_law 2867 [(.ref x), a1, a2, a3, a4, a5, a6, a7, a8] (.ref x :: st) bc bs hp Q := Go_next (i := .aload_n 0) rfl rfl
set_option maxRecDepth 100000 in
theorem sL_law_2867 {x : Int32} : Go kL_law 2867 [a0, a1, a2, a3, a4, (.int x), a6, a7, a8] st bc bs hp Q ↔ Go kL_law 2869 [a0, a1, a2, a3, a4, (.int x), a6, a7, a8] (.int x :: st) bc bs hp Q := Go_next (i := .iload 5) rfl rfl
set_option maxRecDepth 100000 in
theorem sL_law_2869 : Go kL_law 2869 [a0, a1, a2, a3, a4, a5, a6, a7, a8] st bc bs hp Q ↔ Go kL_law 2870 [a0, a1, a2, a3, a4, a5, a6, a7, a8] (.int 1 :: st) bc bs hp Q := Go_next (i := .iconst 1) rfl rfl
set_option maxRecDepth 100000 in
theorem sL_law_2870 {x y : Int32} : Go kL_law 2870 [a0, a1, a2, a3, a4, a5, a6, a7, a8] (.int y :: .int x :: st) bc bs hp Q ↔ Go kL_law 2871 [a0, a1, a2, a3, a4, a5, a6, a7, a8] (.int (x + y) :: st) bc bs hp Q := Go_next (i := .iadd) rfl rfl
set_option maxRecDepth 100000 in
theorem sL_law_2871 {x : Nat} {i : Int32} : Go kL_law 2871 [a0, a1, a2, a3, a4, a5, a6, a7, a8] (.int i :: .ref x :: st) bc bs hp Q ↔ RdA hp x 0 i (fun v => Go kL_law 2872 [a0, a1, a2, a3, a4, a5, a6, a7, a8] (.int v :: st) bc bs hp Q) := Go_iald rfl
set_option maxRecDepth 100000 in
theorem sL_law_2872 {p0 : Int32} {x : Nat} : Go kL_law 2872 [a0, a1, a2, a3, a4, a5, a6, a7, a8] (.int p0 :: .ref x :: st) bc bs hp Q ↔ Rcv hp x 8 ∧ nsum st ≤ 8 ∧ Call kX8_isFading [.ref x, .int p0] hp (Aft kL_law 2875 [a0, a1, a2, a3, a4, a5, a6, a7, a8] st bc bs Q) := Go_invV0 rfl rfl rfl rfl rfl rfl rfl rfl rfl rfl
set_option maxRecDepth 100000 in
theorem sL_law_2875 {x : Int32} (hj : a6.category = 1) : Go kL_law 2875 [a0, a1, a2, a3, a4, a5, a6, a7, a8] (.int x :: st) bc bs hp Q ↔ Go kL_law 2877 [a0, a1, a2, a3, a4, a5, a6, (.int x), a8] st bc bs hp Q := Go_sto (i := .istore 7) (j := 7) (v := .int x) rfl rfl (Nat.le_of_ble_eq_true rfl) (decide_eq_true hj) rfl
set_option maxRecDepth 100000 in
theorem sL_law_2877 {x : Nat} : Go kL_law 2877 [a0, a1, (.ref x), a3, a4, a5, a6, a7, a8] st bc bs hp Q ↔ Go kL_law 2878 [a0, a1, (.ref x), a3, a4, a5, a6, a7, a8] (.ref x :: st) bc bs hp Q := Go_next (i := .aload_n 2) rfl rfl
set_option maxRecDepth 100000 in
theorem sL_law_2878 {x : Nat} : Go kL_law 2878 [a0, a1, a2, a3, a4, a5, a6, a7, a8] (.ref x :: st) bc bs hp Q ↔ Rcv hp x 8 ∧ nsum st ≤ 8 ∧ Call kX8_thrown [.ref x] hp (Aft kL_law 2881 [a0, a1, a2, a3, a4, a5, a6, a7, a8] st bc bs Q) := Go_invV0 rfl rfl rfl rfl rfl rfl rfl rfl rfl rfl
set_option maxRecDepth 100000 in
theorem sL_law_2881 {x : Int32} : Go kL_law 2881 [a0, a1, a2, a3, a4, a5, (.int x), a7, a8] st bc bs hp Q ↔ Go kL_law 2883 [a0, a1, a2, a3, a4, a5, (.int x), a7, a8] (.int x :: st) bc bs hp Q := Go_next (i := .iload 6) rfl rfl
set_option maxRecDepth 100000 in
theorem sL_law_2883 {x y : Int32} : Go kL_law 2883 [a0, a1, a2, a3, a4, a5, a6, a7, a8] (.int y :: .int x :: st) bc bs hp Q ↔ (x = y → Go kL_law 2888 [a0, a1, a2, a3, a4, a5, a6, a7, a8] st bc bs hp Q) ∧ (¬ x = y → Go kL_law 2886 [a0, a1, a2, a3, a4, a5, a6, a7, a8] st bc bs hp Q) := Go_ift (c := x = y) (i := .if_icmp .eq 5) rfl rfl
set_option maxRecDepth 100000 in
theorem sL_law_2886 : Go kL_law 2886 [a0, a1, a2, a3, a4, a5, a6, a7, a8] st bc bs hp Q ↔ Go kL_law 2887 [a0, a1, a2, a3, a4, a5, a6, a7, a8] (.int 0 :: st) bc bs hp Q := Go_next (i := .iconst 0) rfl rfl
set_option maxRecDepth 100000 in
theorem sL_law_2887 {x : Int32} : Go kL_law 2887 [a0, a1, a2, a3, a4, a5, a6, a7, a8] [.int x] bc bs hp Q ↔ outI kL_law x = true ∧ Q (.inl (some (.int x))) hp := Go_retIf (i := .ireturn) rfl rfl
set_option maxRecDepth 100000 in
theorem sL_law_2888 {x : Int32} : Go kL_law 2888 [a0, a1, a2, a3, a4, a5, (.int x), a7, a8] st bc bs hp Q ↔ Go kL_law 2890 [a0, a1, a2, a3, a4, a5, (.int x), a7, a8] (.int x :: st) bc bs hp Q := Go_next (i := .iload 6) rfl rfl
set_option maxRecDepth 100000 in
theorem sL_law_2890 {x : Int32} : Go kL_law 2890 [a0, a1, a2, a3, a4, a5, a6, a7, a8] (.int x :: st) bc bs hp Q ↔ (¬ x = 0 → Go kL_law 2912 [a0, a1, a2, a3, a4, a5, a6, a7, a8] st bc bs hp Q) ∧ (x = 0 → Go kL_law 2893 [a0, a1, a2, a3, a4, a5, a6, a7, a8] st bc bs hp Q) := Go_ifn (c := x = 0) (i := .ifCond .ne 22) rfl rfl
set_option maxRecDepth 100000 in
theorem sL_law_2893 {x : Nat} : Go kL_law 2893 [a0, a1, a2, (.ref x), a4, a5, a6, a7, a8] st bc bs hp Q ↔ Go kL_law 2894 [a0, a1, a2, (.ref x), a4, a5, a6, a7, a8] (.ref x :: st) bc bs hp Q := Go_next (i := .aload_n 3) rfl rfl
set_option maxRecDepth 100000 in
theorem sL_law_2894 : Go kL_law 2894 [a0, a1, a2, a3, a4, a5, a6, a7, a8] st bc bs hp Q ↔ Go kL_law 2895 [a0, a1, a2, a3, a4, a5, a6, a7, a8] (.int 0 :: st) bc bs hp Q := Go_next (i := .iconst 0) rfl rfl
set_option maxRecDepth 100000 in
theorem sL_law_2895 {x : Nat} {i : Int32} : Go kL_law 2895 [a0, a1, a2, a3, a4, a5, a6, a7, a8] (.int i :: .ref x :: st) bc bs hp Q ↔ RdL hp x i (fun v => Go kL_law 2896 [a0, a1, a2, a3, a4, a5, a6, a7, a8] (.long v :: st) bc bs hp Q) := Go_lald rfl
set_option maxRecDepth 100000 in
theorem sL_law_2896 {x : Int32} : Go kL_law 2896 [a0, a1, a2, a3, a4, a5, a6, (.int x), a8] st bc bs hp Q ↔ Go kL_law 2898 [a0, a1, a2, a3, a4, a5, a6, (.int x), a8] (.int x :: st) bc bs hp Q := Go_next (i := .iload 7) rfl rfl
set_option maxRecDepth 100000 in
theorem sL_law_2898 {x : Int32} : Go kL_law 2898 [a0, a1, a2, a3, a4, a5, a6, a7, a8] (.int x :: st) bc bs hp Q ↔ (x = 0 → Go kL_law 2905 [a0, a1, a2, a3, a4, a5, a6, a7, a8] st bc bs hp Q) ∧ (¬ x = 0 → Go kL_law 2901 [a0, a1, a2, a3, a4, a5, a6, a7, a8] st bc bs hp Q) := Go_ift (c := x = 0) (i := .ifCond .eq 7) rfl rfl
set_option maxRecDepth 100000 in
theorem sL_law_2901 : Go kL_law 2901 [a0, a1, a2, a3, a4, a5, a6, a7, a8] st bc bs hp Q ↔ Go kL_law 2902 [a0, a1, a2, a3, a4, a5, a6, a7, a8] (.long 1 :: st) bc bs hp Q := Go_next (i := .lconst 1) rfl rfl
set_option maxRecDepth 100000 in
theorem sL_law_2902 : Go kL_law 2902 [a0, a1, a2, a3, a4, a5, a6, a7, a8] st bc bs hp Q ↔ Go kL_law 2906 [a0, a1, a2, a3, a4, a5, a6, a7, a8] st bc bs hp Q := Go_next (i := .goto 4) rfl rfl
set_option maxRecDepth 100000 in
theorem sL_law_2905 : Go kL_law 2905 [a0, a1, a2, a3, a4, a5, a6, a7, a8] st bc bs hp Q ↔ Go kL_law 2906 [a0, a1, a2, a3, a4, a5, a6, a7, a8] (.long 0 :: st) bc bs hp Q := Go_next (i := .lconst 0) rfl rfl
set_option maxRecDepth 100000 in
theorem sL_law_2906 {x y : Int64} : Go kL_law 2906 [a0, a1, a2, a3, a4, a5, a6, a7, a8] (.long y :: .long x :: st) bc bs hp Q ↔ Go kL_law 2907 [a0, a1, a2, a3, a4, a5, a6, a7, a8] (.int (lg_cmp x y) :: st) bc bs hp Q := Go_next (i := .lcmp) rfl rfl
set_option maxRecDepth 100000 in
theorem sL_law_2907 {x : Int32} : Go kL_law 2907 [a0, a1, a2, a3, a4, a5, a6, a7, a8] (.int x :: st) bc bs hp Q ↔ (x = 0 → Go kL_law 2912 [a0, a1, a2, a3, a4, a5, a6, a7, a8] st bc bs hp Q) ∧ (¬ x = 0 → Go kL_law 2910 [a0, a1, a2, a3, a4, a5, a6, a7, a8] st bc bs hp Q) := Go_ift (c := x = 0) (i := .ifCond .eq 5) rfl rfl
set_option maxRecDepth 100000 in
theorem sL_law_2910 : Go kL_law 2910 [a0, a1, a2, a3, a4, a5, a6, a7, a8] st bc bs hp Q ↔ Go kL_law 2911 [a0, a1, a2, a3, a4, a5, a6, a7, a8] (.int 0 :: st) bc bs hp Q := Go_next (i := .iconst 0) rfl rfl
set_option maxRecDepth 100000 in
theorem sL_law_2911 {x : Int32} : Go kL_law 2911 [a0, a1, a2, a3, a4, a5, a6, a7, a8] [.int x] bc bs hp Q ↔ outI kL_law x = true ∧ Q (.inl (some (.int x))) hp := Go_retIf (i := .ireturn) rfl rfl
set_option maxRecDepth 100000 in
theorem sL_law_2912 : Go kL_law 2912 [a0, a1, a2, a3, a4, a5, a6, a7, a8] st bc bs hp Q ↔ Go kL_law 3086 [a0, a1, a2, a3, a4, a5, a6, a7, a8] st bc bs hp Q := Go_next (i := .goto 174) rfl rfl
set_option maxRecDepth 100000 in
theorem sL_law_2915 {x : Nat} : Go kL_law 2915 [a0, (.ref x), a2, a3, a4, a5, a6, a7, a8] st bc bs hp Q ↔ Go kL_law 2916 [a0, (.ref x), a2, a3, a4, a5, a6, a7, a8] (.ref x :: st) bc bs hp Q := Go_next (i := .aload_n 1) rfl rfl
set_option maxRecDepth 100000 in
theorem sL_law_2916 {x : Nat} : Go kL_law 2916 [a0, a1, a2, a3, a4, a5, a6, a7, a8] (.ref x :: st) bc bs hp Q ↔ Rcv hp x 7 ∧ nsum st ≤ 8 ∧ Call kX7_time [.ref x] hp (Aft kL_law 2919 [a0, a1, a2, a3, a4, a5, a6, a7, a8] st bc bs Q) := Go_invV0 rfl rfl rfl rfl rfl rfl rfl rfl rfl rfl
set_option maxRecDepth 100000 in
theorem sL_law_2919 {x : Nat} : Go kL_law 2919 [a0, a1, (.ref x), a3, a4, a5, a6, a7, a8] st bc bs hp Q ↔ Go kL_law 2920 [a0, a1, (.ref x), a3, a4, a5, a6, a7, a8] (.ref x :: st) bc bs hp Q := Go_next (i := .aload_n 2) rfl rfl
set_option maxRecDepth 100000 in
theorem sL_law_2920 {x : Nat} : Go kL_law 2920 [a0, a1, a2, a3, a4, a5, a6, a7, a8] (.ref x :: st) bc bs hp Q ↔ Rcv hp x 8 ∧ nsum st ≤ 8 ∧ Call kX8_time [.ref x] hp (Aft kL_law 2923 [a0, a1, a2, a3, a4, a5, a6, a7, a8] st bc bs Q) := Go_invV0 rfl rfl rfl rfl rfl rfl rfl rfl rfl rfl
set_option maxRecDepth 100000 in
theorem sL_law_2923 {x y : Int32} : Go kL_law 2923 [a0, a1, a2, a3, a4, a5, a6, a7, a8] (.int y :: .int x :: st) bc bs hp Q ↔ (x = y → Go kL_law 3086 [a0, a1, a2, a3, a4, a5, a6, a7, a8] st bc bs hp Q) ∧ (¬ x = y → Go kL_law 2926 [a0, a1, a2, a3, a4, a5, a6, a7, a8] st bc bs hp Q) := Go_ift (c := x = y) (i := .if_icmp .eq 163) rfl rfl
set_option maxRecDepth 100000 in
theorem sL_law_2926 : Go kL_law 2926 [a0, a1, a2, a3, a4, a5, a6, a7, a8] st bc bs hp Q ↔ Go kL_law 2927 [a0, a1, a2, a3, a4, a5, a6, a7, a8] (.int 0 :: st) bc bs hp Q := Go_next (i := .iconst 0) rfl rfl
set_option maxRecDepth 100000 in
theorem sL_law_2927 {x : Int32} : Go kL_law 2927 [a0, a1, a2, a3, a4, a5, a6, a7, a8] [.int x] bc bs hp Q ↔ outI kL_law x = true ∧ Q (.inl (some (.int x))) hp := Go_retIf (i := .ireturn) rfl rfl
set_option maxRecDepth 100000 in
theorem sL_law_2928 {x : Nat} : Go kL_law 2928 [a0, (.ref x), a2, a3, a4, a5, a6, a7, a8] st bc bs hp Q ↔ Go kL_law 2929 [a0, (.ref x), a2, a3, a4, a5, a6, a7, a8] (.ref x :: st) bc bs hp Q := Go_next (i := .aload_n 1) rfl rfl
set_option maxRecDepth 100000 in
theorem sL_law_2929 {x : Nat} : Go kL_law 2929 [a0, a1, a2, a3, a4, a5, a6, a7, a8] (.ref x :: st) bc bs hp Q ↔ Rcv hp x 7 ∧ nsum st ≤ 8 ∧ Call kX7_sum [.ref x] hp (Aft kL_law 2932 [a0, a1, a2, a3, a4, a5, a6, a7, a8] st bc bs Q) := Go_invV0 rfl rfl rfl rfl rfl rfl rfl rfl rfl rfl
set_option maxRecDepth 100000 in
theorem sL_law_2932 {x : Nat} : Go kL_law 2932 [a0, a1, (.ref x), a3, a4, a5, a6, a7, a8] st bc bs hp Q ↔ Go kL_law 2933 [a0, a1, (.ref x), a3, a4, a5, a6, a7, a8] (.ref x :: st) bc bs hp Q := Go_next (i := .aload_n 2) rfl rfl
set_option maxRecDepth 100000 in
theorem sL_law_2933 {x : Nat} : Go kL_law 2933 [a0, a1, a2, a3, a4, a5, a6, a7, a8] (.ref x :: st) bc bs hp Q ↔ Rcv hp x 8 ∧ nsum st ≤ 8 ∧ Call kX8_sum [.ref x] hp (Aft kL_law 2936 [a0, a1, a2, a3, a4, a5, a6, a7, a8] st bc bs Q) := Go_invV0 rfl rfl rfl rfl rfl rfl rfl rfl rfl rfl
set_option maxRecDepth 100000 in
theorem sL_law_2936 {x y : Int64} : Go kL_law 2936 [a0, a1, a2, a3, a4, a5, a6, a7, a8] (.long y :: .long x :: st) bc bs hp Q ↔ Go kL_law 2937 [a0, a1, a2, a3, a4, a5, a6, a7, a8] (.int (lg_cmp x y) :: st) bc bs hp Q := Go_next (i := .lcmp) rfl rfl
set_option maxRecDepth 100000 in
theorem sL_law_2937 {x : Int32} : Go kL_law 2937 [a0, a1, a2, a3, a4, a5, a6, a7, a8] (.int x :: st) bc bs hp Q ↔ (x = 0 → Go kL_law 3086 [a0, a1, a2, a3, a4, a5, a6, a7, a8] st bc bs hp Q) ∧ (¬ x = 0 → Go kL_law 2940 [a0, a1, a2, a3, a4, a5, a6, a7, a8] st bc bs hp Q) := Go_ift (c := x = 0) (i := .ifCond .eq 149) rfl rfl
set_option maxRecDepth 100000 in
theorem sL_law_2940 : Go kL_law 2940 [a0, a1, a2, a3, a4, a5, a6, a7, a8] st bc bs hp Q ↔ Go kL_law 2941 [a0, a1, a2, a3, a4, a5, a6, a7, a8] (.int 0 :: st) bc bs hp Q := Go_next (i := .iconst 0) rfl rfl
set_option maxRecDepth 100000 in
theorem sL_law_2941 {x : Int32} : Go kL_law 2941 [a0, a1, a2, a3, a4, a5, a6, a7, a8] [.int x] bc bs hp Q ↔ outI kL_law x = true ∧ Q (.inl (some (.int x))) hp := Go_retIf (i := .ireturn) rfl rfl
set_option maxRecDepth 100000 in
theorem sL_law_2942 {x : Nat} : Go kL_law 2942 [a0, (.ref x), a2, a3, a4, a5, a6, a7, a8] st bc bs hp Q ↔ Go kL_law 2943 [a0, (.ref x), a2, a3, a4, a5, a6, a7, a8] (.ref x :: st) bc bs hp Q := Go_next (i := .aload_n 1) rfl rfl
set_option maxRecDepth 100000 in
theorem sL_law_2943 {x : Nat} : Go kL_law 2943 [a0, a1, a2, a3, (.ref x), a5, a6, a7, a8] st bc bs hp Q ↔ Go kL_law 2945 [a0, a1, a2, a3, (.ref x), a5, a6, a7, a8] (.ref x :: st) bc bs hp Q := Go_next (i := .aload 4) rfl rfl
set_option maxRecDepth 100000 in
theorem sL_law_2945 {p0 : Nat} {p1 : Nat} : Go kL_law 2945 [a0, a1, a2, a3, a4, a5, a6, a7, a8] (.ref p1 :: .ref p0 :: st) bc bs hp Q ↔ (1 ≤ bc ∧ 6 ≤ bs ∧ nsum st ≤ 8) ∧ Call kL_litShare [.ref p0, .ref p1] hp (Aft kL_law 2948 [a0, a1, a2, a3, a4, a5, a6, a7, a8] st (bc - 1) (bs - 6) Q) := Go_inv (i := .invokestatic 294) rfl rfl rfl rfl rfl rfl
set_option maxRecDepth 100000 in
theorem sL_law_2948 {x : Int32} (hj : a5.category = 1) : Go kL_law 2948 [a0, a1, a2, a3, a4, a5, a6, a7, a8] (.int x :: st) bc bs hp Q ↔ Go kL_law 2950 [a0, a1, a2, a3, a4, a5, (.int x), a7, a8] st bc bs hp Q := Go_sto (i := .istore 6) (j := 6) (v := .int x) rfl rfl (Nat.le_of_ble_eq_true rfl) (decide_eq_true hj) rfl
set_option maxRecDepth 100000 in
theorem sL_law_2950 {x : Nat} : Go kL_law 2950 [a0, a1, (.ref x), a3, a4, a5, a6, a7, a8] st bc bs hp Q ↔ Go kL_law 2951 [a0, a1, (.ref x), a3, a4, a5, a6, a7, a8] (.ref x :: st) bc bs hp Q := Go_next (i := .aload_n 2) rfl rfl
set_option maxRecDepth 100000 in
theorem sL_law_2951 {x : Nat} : Go kL_law 2951 [a0, a1, a2, a3, a4, a5, a6, a7, a8] (.ref x :: st) bc bs hp Q ↔ Rcv hp x 8 ∧ nsum st ≤ 8 ∧ Call kX8_litShare [.ref x] hp (Aft kL_law 2954 [a0, a1, a2, a3, a4, a5, a6, a7, a8] st bc bs Q) := Go_invV0 rfl rfl rfl rfl rfl rfl rfl rfl rfl rfl
set_option maxRecDepth 100000 in
theorem sL_law_2954 {x : UInt32} (hj : a6.category = 1) : Go kL_law 2954 [a0, a1, a2, a3, a4, a5, a6, a7, a8] (.float x :: st) bc bs hp Q ↔ Go kL_law 2956 [a0, a1, a2, a3, a4, a5, a6, (.float x), a8] st bc bs hp Q := Go_sto (i := .fstore 7) (j := 7) (v := .float x) rfl rfl (Nat.le_of_ble_eq_true rfl) (decide_eq_true hj) rfl
set_option maxRecDepth 100000 in
theorem sL_law_2956 {x : Nat} : Go kL_law 2956 [a0, a1, (.ref x), a3, a4, a5, a6, a7, a8] st bc bs hp Q ↔ Go kL_law 2957 [a0, a1, (.ref x), a3, a4, a5, a6, a7, a8] (.ref x :: st) bc bs hp Q := Go_next (i := .aload_n 2) rfl rfl
set_option maxRecDepth 100000 in
theorem sL_law_2957 {x : Nat} : Go kL_law 2957 [a0, a1, a2, a3, a4, a5, a6, a7, a8] (.ref x :: st) bc bs hp Q ↔ Rcv hp x 8 ∧ nsum st ≤ 8 ∧ Call kX8_thrown [.ref x] hp (Aft kL_law 2960 [a0, a1, a2, a3, a4, a5, a6, a7, a8] st bc bs Q) := Go_invV0 rfl rfl rfl rfl rfl rfl rfl rfl rfl rfl
set_option maxRecDepth 100000 in
theorem sL_law_2960 {x : Int32} : Go kL_law 2960 [a0, a1, a2, a3, a4, a5, (.int x), a7, a8] st bc bs hp Q ↔ Go kL_law 2962 [a0, a1, a2, a3, a4, a5, (.int x), a7, a8] (.int x :: st) bc bs hp Q := Go_next (i := .iload 6) rfl rfl
set_option maxRecDepth 100000 in
theorem sL_law_2962 {x y : Int32} : Go kL_law 2962 [a0, a1, a2, a3, a4, a5, a6, a7, a8] (.int y :: .int x :: st) bc bs hp Q ↔ (x = y → Go kL_law 2967 [a0, a1, a2, a3, a4, a5, a6, a7, a8] st bc bs hp Q) ∧ (¬ x = y → Go kL_law 2965 [a0, a1, a2, a3, a4, a5, a6, a7, a8] st bc bs hp Q) := Go_ift (c := x = y) (i := .if_icmp .eq 5) rfl rfl
set_option maxRecDepth 100000 in
theorem sL_law_2965 : Go kL_law 2965 [a0, a1, a2, a3, a4, a5, a6, a7, a8] st bc bs hp Q ↔ Go kL_law 2966 [a0, a1, a2, a3, a4, a5, a6, a7, a8] (.int 0 :: st) bc bs hp Q := Go_next (i := .iconst 0) rfl rfl
set_option maxRecDepth 100000 in
theorem sL_law_2966 {x : Int32} : Go kL_law 2966 [a0, a1, a2, a3, a4, a5, a6, a7, a8] [.int x] bc bs hp Q ↔ outI kL_law x = true ∧ Q (.inl (some (.int x))) hp := Go_retIf (i := .ireturn) rfl rfl
set_option maxRecDepth 100000 in
theorem sL_law_2967 {x : Int32} : Go kL_law 2967 [a0, a1, a2, a3, a4, a5, (.int x), a7, a8] st bc bs hp Q ↔ Go kL_law 2969 [a0, a1, a2, a3, a4, a5, (.int x), a7, a8] (.int x :: st) bc bs hp Q := Go_next (i := .iload 6) rfl rfl
set_option maxRecDepth 100000 in
theorem sL_law_2969 {x : Int32} : Go kL_law 2969 [a0, a1, a2, a3, a4, a5, a6, a7, a8] (.int x :: st) bc bs hp Q ↔ (¬ x = 0 → Go kL_law 3005 [a0, a1, a2, a3, a4, a5, a6, a7, a8] st bc bs hp Q) ∧ (x = 0 → Go kL_law 2972 [a0, a1, a2, a3, a4, a5, a6, a7, a8] st bc bs hp Q) := Go_ifn (c := x = 0) (i := .ifCond .ne 36) rfl rfl
set_option maxRecDepth 100000 in
theorem sL_law_2972 {x : Nat} : Go kL_law 2972 [a0, a1, a2, a3, (.ref x), a5, a6, a7, a8] st bc bs hp Q ↔ Go kL_law 2974 [a0, a1, a2, a3, (.ref x), a5, a6, a7, a8] (.ref x :: st) bc bs hp Q := Go_next (i := .aload 4) rfl rfl
set_option maxRecDepth 100000 in
theorem sL_law_2974 : Go kL_law 2974 [a0, a1, a2, a3, a4, a5, a6, a7, a8] st bc bs hp Q ↔ Go kL_law 2975 [a0, a1, a2, a3, a4, a5, a6, a7, a8] (.int 0 :: st) bc bs hp Q := Go_next (i := .iconst 0) rfl rfl
set_option maxRecDepth 100000 in
theorem sL_law_2975 {x : Nat} {i : Int32} : Go kL_law 2975 [a0, a1, a2, a3, a4, a5, a6, a7, a8] (.int i :: .ref x :: st) bc bs hp Q ↔ RdD hp x i (fun v => Go kL_law 2976 [a0, a1, a2, a3, a4, a5, a6, a7, a8] (.double v :: st) bc bs hp Q) := Go_dald rfl
set_option maxRecDepth 100000 in
theorem sL_law_2976 {x : UInt32} : Go kL_law 2976 [a0, a1, a2, a3, a4, a5, a6, (.float x), a8] st bc bs hp Q ↔ Go kL_law 2978 [a0, a1, a2, a3, a4, a5, a6, (.float x), a8] (.float x :: st) bc bs hp Q := Go_next (i := .fload 7) rfl rfl
set_option maxRecDepth 100000 in
theorem sL_law_2978 {x : UInt32} : Go kL_law 2978 [a0, a1, a2, a3, a4, a5, a6, a7, a8] (.float x :: st) bc bs hp Q ↔ nn64 (FP.f2d x) = true ∧ Go kL_law 2979 [a0, a1, a2, a3, a4, a5, a6, a7, a8] (.double (FP.f2d x) :: st) bc bs hp Q := Go_on (i := .f2d) rfl rfl
set_option maxRecDepth 100000 in
theorem sL_law_2979 {x y : UInt64} : Go kL_law 2979 [a0, a1, a2, a3, a4, a5, a6, a7, a8] (.double y :: .double x :: st) bc bs hp Q ↔ Go kL_law 2980 [a0, a1, a2, a3, a4, a5, a6, a7, a8] (.int (Op.cmpValue (FP.dcmp x y) .l) :: st) bc bs hp Q := Go_next (i := .dcmp .l) rfl rfl
set_option maxRecDepth 100000 in
theorem sL_law_2980 {x : Int32} : Go kL_law 2980 [a0, a1, a2, a3, a4, a5, a6, a7, a8] (.int x :: st) bc bs hp Q ↔ (x = 0 → Go kL_law 3005 [a0, a1, a2, a3, a4, a5, a6, a7, a8] st bc bs hp Q) ∧ (¬ x = 0 → Go kL_law 2983 [a0, a1, a2, a3, a4, a5, a6, a7, a8] st bc bs hp Q) := Go_ift (c := x = 0) (i := .ifCond .eq 25) rfl rfl
set_option maxRecDepth 100000 in
theorem sL_law_2983 {x : Nat} : Go kL_law 2983 [a0, a1, a2, a3, (.ref x), a5, a6, a7, a8] st bc bs hp Q ↔ Go kL_law 2985 [a0, a1, a2, a3, (.ref x), a5, a6, a7, a8] (.ref x :: st) bc bs hp Q := Go_next (i := .aload 4) rfl rfl
set_option maxRecDepth 100000 in
theorem sL_law_2985 : Go kL_law 2985 [a0, a1, a2, a3, a4, a5, a6, a7, a8] st bc bs hp Q ↔ Go kL_law 2986 [a0, a1, a2, a3, a4, a5, a6, a7, a8] (.int 0 :: st) bc bs hp Q := Go_next (i := .iconst 0) rfl rfl
set_option maxRecDepth 100000 in
theorem sL_law_2986 {x : Nat} {i : Int32} : Go kL_law 2986 [a0, a1, a2, a3, a4, a5, a6, a7, a8] (.int i :: .ref x :: st) bc bs hp Q ↔ RdD hp x i (fun v => Go kL_law 2987 [a0, a1, a2, a3, a4, a5, a6, a7, a8] (.double v :: st) bc bs hp Q) := Go_dald rfl
set_option maxRecDepth 100000 in
theorem sL_law_2987 {x : Nat} : Go kL_law 2987 [a0, a1, a2, a3, (.ref x), a5, a6, a7, a8] st bc bs hp Q ↔ Go kL_law 2989 [a0, a1, a2, a3, (.ref x), a5, a6, a7, a8] (.ref x :: st) bc bs hp Q := Go_next (i := .aload 4) rfl rfl
set_option maxRecDepth 100000 in
theorem sL_law_2989 : Go kL_law 2989 [a0, a1, a2, a3, a4, a5, a6, a7, a8] st bc bs hp Q ↔ Go kL_law 2990 [a0, a1, a2, a3, a4, a5, a6, a7, a8] (.int 0 :: st) bc bs hp Q := Go_next (i := .iconst 0) rfl rfl
set_option maxRecDepth 100000 in
theorem sL_law_2990 {x : Nat} {i : Int32} : Go kL_law 2990 [a0, a1, a2, a3, a4, a5, a6, a7, a8] (.int i :: .ref x :: st) bc bs hp Q ↔ RdD hp x i (fun v => Go kL_law 2991 [a0, a1, a2, a3, a4, a5, a6, a7, a8] (.double v :: st) bc bs hp Q) := Go_dald rfl
set_option maxRecDepth 100000 in
theorem sL_law_2991 {x y : UInt64} : Go kL_law 2991 [a0, a1, a2, a3, a4, a5, a6, a7, a8] (.double y :: .double x :: st) bc bs hp Q ↔ Go kL_law 2992 [a0, a1, a2, a3, a4, a5, a6, a7, a8] (.int (Op.cmpValue (FP.dcmp x y) .l) :: st) bc bs hp Q := Go_next (i := .dcmp .l) rfl rfl
set_option maxRecDepth 100000 in
theorem sL_law_2992 {x : Int32} : Go kL_law 2992 [a0, a1, a2, a3, a4, a5, a6, a7, a8] (.int x :: st) bc bs hp Q ↔ (x = 0 → Go kL_law 3003 [a0, a1, a2, a3, a4, a5, a6, a7, a8] st bc bs hp Q) ∧ (¬ x = 0 → Go kL_law 2995 [a0, a1, a2, a3, a4, a5, a6, a7, a8] st bc bs hp Q) := Go_ift (c := x = 0) (i := .ifCond .eq 11) rfl rfl
set_option maxRecDepth 100000 in
theorem sL_law_2995 {x : UInt32} : Go kL_law 2995 [a0, a1, a2, a3, a4, a5, a6, (.float x), a8] st bc bs hp Q ↔ Go kL_law 2997 [a0, a1, a2, a3, a4, a5, a6, (.float x), a8] (.float x :: st) bc bs hp Q := Go_next (i := .fload 7) rfl rfl
set_option maxRecDepth 100000 in
theorem sL_law_2997 {x : UInt32} : Go kL_law 2997 [a0, a1, a2, a3, a4, a5, a6, (.float x), a8] st bc bs hp Q ↔ Go kL_law 2999 [a0, a1, a2, a3, a4, a5, a6, (.float x), a8] (.float x :: st) bc bs hp Q := Go_next (i := .fload 7) rfl rfl
set_option maxRecDepth 100000 in
theorem sL_law_2999 {x y : UInt32} : Go kL_law 2999 [a0, a1, a2, a3, a4, a5, a6, a7, a8] (.float y :: .float x :: st) bc bs hp Q ↔ Go kL_law 3000 [a0, a1, a2, a3, a4, a5, a6, a7, a8] (.int (Op.cmpValue (FP.fcmp x y) .l) :: st) bc bs hp Q := Go_next (i := .fcmp .l) rfl rfl
set_option maxRecDepth 100000 in
theorem sL_law_3000 {x : Int32} : Go kL_law 3000 [a0, a1, a2, a3, a4, a5, a6, a7, a8] (.int x :: st) bc bs hp Q ↔ (¬ x = 0 → Go kL_law 3005 [a0, a1, a2, a3, a4, a5, a6, a7, a8] st bc bs hp Q) ∧ (x = 0 → Go kL_law 3003 [a0, a1, a2, a3, a4, a5, a6, a7, a8] st bc bs hp Q) := Go_ifn (c := x = 0) (i := .ifCond .ne 5) rfl rfl
set_option maxRecDepth 100000 in
theorem sL_law_3003 : Go kL_law 3003 [a0, a1, a2, a3, a4, a5, a6, a7, a8] st bc bs hp Q ↔ Go kL_law 3004 [a0, a1, a2, a3, a4, a5, a6, a7, a8] (.int 0 :: st) bc bs hp Q := Go_next (i := .iconst 0) rfl rfl
set_option maxRecDepth 100000 in
theorem sL_law_3004 {x : Int32} : Go kL_law 3004 [a0, a1, a2, a3, a4, a5, a6, a7, a8] [.int x] bc bs hp Q ↔ outI kL_law x = true ∧ Q (.inl (some (.int x))) hp := Go_retIf (i := .ireturn) rfl rfl
set_option maxRecDepth 100000 in
theorem sL_law_3005 : Go kL_law 3005 [a0, a1, a2, a3, a4, a5, a6, a7, a8] st bc bs hp Q ↔ Go kL_law 3086 [a0, a1, a2, a3, a4, a5, a6, a7, a8] st bc bs hp Q := Go_next (i := .goto 81) rfl rfl
set_option maxRecDepth 100000 in
theorem sL_law_3008 {x : Nat} : Go kL_law 3008 [a0, (.ref x), a2, a3, a4, a5, a6, a7, a8] st bc bs hp Q ↔ Go kL_law 3009 [a0, (.ref x), a2, a3, a4, a5, a6, a7, a8] (.ref x :: st) bc bs hp Q := Go_next (i := .aload_n 1) rfl rfl
set_option maxRecDepth 100000 in
theorem sL_law_3009 {x : Nat} : Go kL_law 3009 [a0, a1, a2, a3, (.ref x), a5, a6, a7, a8] st bc bs hp Q ↔ Go kL_law 3011 [a0, a1, a2, a3, (.ref x), a5, a6, a7, a8] (.ref x :: st) bc bs hp Q := Go_next (i := .aload 4) rfl rfl
set_option maxRecDepth 100000 in
theorem sL_law_3011 {p0 : Nat} {p1 : Nat} : Go kL_law 3011 [a0, a1, a2, a3, a4, a5, a6, a7, a8] (.ref p1 :: .ref p0 :: st) bc bs hp Q ↔ (1 ≤ bc ∧ 6 ≤ bs ∧ nsum st ≤ 8) ∧ Call kL_meanStored [.ref p0, .ref p1] hp (Aft kL_law 3014 [a0, a1, a2, a3, a4, a5, a6, a7, a8] st (bc - 1) (bs - 6) Q) := Go_inv (i := .invokestatic 298) rfl rfl rfl rfl rfl rfl
set_option maxRecDepth 100000 in
theorem sL_law_3014 {x : Int32} (hj : a5.category = 1) : Go kL_law 3014 [a0, a1, a2, a3, a4, a5, a6, a7, a8] (.int x :: st) bc bs hp Q ↔ Go kL_law 3016 [a0, a1, a2, a3, a4, a5, (.int x), a7, a8] st bc bs hp Q := Go_sto (i := .istore 6) (j := 6) (v := .int x) rfl rfl (Nat.le_of_ble_eq_true rfl) (decide_eq_true hj) rfl
set_option maxRecDepth 100000 in
theorem sL_law_3016 {x : Nat} : Go kL_law 3016 [a0, a1, (.ref x), a3, a4, a5, a6, a7, a8] st bc bs hp Q ↔ Go kL_law 3017 [a0, a1, (.ref x), a3, a4, a5, a6, a7, a8] (.ref x :: st) bc bs hp Q := Go_next (i := .aload_n 2) rfl rfl
set_option maxRecDepth 100000 in
theorem sL_law_3017 {x : Nat} : Go kL_law 3017 [a0, a1, a2, a3, a4, a5, a6, a7, a8] (.ref x :: st) bc bs hp Q ↔ Rcv hp x 8 ∧ nsum st ≤ 8 ∧ Call kX8_meanStored [.ref x] hp (Aft kL_law 3020 [a0, a1, a2, a3, a4, a5, a6, a7, a8] st bc bs Q) := Go_invV0 rfl rfl rfl rfl rfl rfl rfl rfl rfl rfl
set_option maxRecDepth 100000 in
theorem sL_law_3020 {x : UInt64} (hj : a6.category = 1) : Go kL_law 3020 [a0, a1, a2, a3, a4, a5, a6, a7, a8] (.double x :: st) bc bs hp Q ↔ Go kL_law 3022 [a0, a1, a2, a3, a4, a5, a6, (.double x), .null] st bc bs hp Q := Go_sto2 (i := .dstore 7) (j := 7) (v := .double x) rfl rfl (Nat.le_of_ble_eq_true rfl) (decide_eq_true hj) rfl
set_option maxRecDepth 100000 in
theorem sL_law_3022 {x : Nat} : Go kL_law 3022 [a0, a1, (.ref x), a3, a4, a5, a6, a7, a8] st bc bs hp Q ↔ Go kL_law 3023 [a0, a1, (.ref x), a3, a4, a5, a6, a7, a8] (.ref x :: st) bc bs hp Q := Go_next (i := .aload_n 2) rfl rfl
set_option maxRecDepth 100000 in
theorem sL_law_3023 {x : Nat} : Go kL_law 3023 [a0, a1, a2, a3, a4, a5, a6, a7, a8] (.ref x :: st) bc bs hp Q ↔ Rcv hp x 8 ∧ nsum st ≤ 8 ∧ Call kX8_thrown [.ref x] hp (Aft kL_law 3026 [a0, a1, a2, a3, a4, a5, a6, a7, a8] st bc bs Q) := Go_invV0 rfl rfl rfl rfl rfl rfl rfl rfl rfl rfl
set_option maxRecDepth 100000 in
theorem sL_law_3026 {x : Int32} : Go kL_law 3026 [a0, a1, a2, a3, a4, a5, (.int x), a7, a8] st bc bs hp Q ↔ Go kL_law 3028 [a0, a1, a2, a3, a4, a5, (.int x), a7, a8] (.int x :: st) bc bs hp Q := Go_next (i := .iload 6) rfl rfl
set_option maxRecDepth 100000 in
theorem sL_law_3028 {x y : Int32} : Go kL_law 3028 [a0, a1, a2, a3, a4, a5, a6, a7, a8] (.int y :: .int x :: st) bc bs hp Q ↔ (x = y → Go kL_law 3033 [a0, a1, a2, a3, a4, a5, a6, a7, a8] st bc bs hp Q) ∧ (¬ x = y → Go kL_law 3031 [a0, a1, a2, a3, a4, a5, a6, a7, a8] st bc bs hp Q) := Go_ift (c := x = y) (i := .if_icmp .eq 5) rfl rfl
set_option maxRecDepth 100000 in
theorem sL_law_3031 : Go kL_law 3031 [a0, a1, a2, a3, a4, a5, a6, a7, a8] st bc bs hp Q ↔ Go kL_law 3032 [a0, a1, a2, a3, a4, a5, a6, a7, a8] (.int 0 :: st) bc bs hp Q := Go_next (i := .iconst 0) rfl rfl
set_option maxRecDepth 100000 in
theorem sL_law_3032 {x : Int32} : Go kL_law 3032 [a0, a1, a2, a3, a4, a5, a6, a7, a8] [.int x] bc bs hp Q ↔ outI kL_law x = true ∧ Q (.inl (some (.int x))) hp := Go_retIf (i := .ireturn) rfl rfl
set_option maxRecDepth 100000 in
theorem sL_law_3033 {x : Int32} : Go kL_law 3033 [a0, a1, a2, a3, a4, a5, (.int x), a7, a8] st bc bs hp Q ↔ Go kL_law 3035 [a0, a1, a2, a3, a4, a5, (.int x), a7, a8] (.int x :: st) bc bs hp Q := Go_next (i := .iload 6) rfl rfl
set_option maxRecDepth 100000 in
theorem sL_law_3035 {x : Int32} : Go kL_law 3035 [a0, a1, a2, a3, a4, a5, a6, a7, a8] (.int x :: st) bc bs hp Q ↔ (¬ x = 0 → Go kL_law 3070 [a0, a1, a2, a3, a4, a5, a6, a7, a8] st bc bs hp Q) ∧ (x = 0 → Go kL_law 3038 [a0, a1, a2, a3, a4, a5, a6, a7, a8] st bc bs hp Q) := Go_ifn (c := x = 0) (i := .ifCond .ne 35) rfl rfl
set_option maxRecDepth 100000 in
theorem sL_law_3038 {x : Nat} : Go kL_law 3038 [a0, a1, a2, a3, (.ref x), a5, a6, a7, a8] st bc bs hp Q ↔ Go kL_law 3040 [a0, a1, a2, a3, (.ref x), a5, a6, a7, a8] (.ref x :: st) bc bs hp Q := Go_next (i := .aload 4) rfl rfl
set_option maxRecDepth 100000 in
theorem sL_law_3040 : Go kL_law 3040 [a0, a1, a2, a3, a4, a5, a6, a7, a8] st bc bs hp Q ↔ Go kL_law 3041 [a0, a1, a2, a3, a4, a5, a6, a7, a8] (.int 0 :: st) bc bs hp Q := Go_next (i := .iconst 0) rfl rfl
set_option maxRecDepth 100000 in
theorem sL_law_3041 {x : Nat} {i : Int32} : Go kL_law 3041 [a0, a1, a2, a3, a4, a5, a6, a7, a8] (.int i :: .ref x :: st) bc bs hp Q ↔ RdD hp x i (fun v => Go kL_law 3042 [a0, a1, a2, a3, a4, a5, a6, a7, a8] (.double v :: st) bc bs hp Q) := Go_dald rfl
set_option maxRecDepth 100000 in
theorem sL_law_3042 {x : UInt64} : Go kL_law 3042 [a0, a1, a2, a3, a4, a5, a6, (.double x), a8] st bc bs hp Q ↔ Go kL_law 3044 [a0, a1, a2, a3, a4, a5, a6, (.double x), a8] (.double x :: st) bc bs hp Q := Go_next (i := .dload 7) rfl rfl
set_option maxRecDepth 100000 in
theorem sL_law_3044 {x y : UInt64} : Go kL_law 3044 [a0, a1, a2, a3, a4, a5, a6, a7, a8] (.double y :: .double x :: st) bc bs hp Q ↔ Go kL_law 3045 [a0, a1, a2, a3, a4, a5, a6, a7, a8] (.int (Op.cmpValue (FP.dcmp x y) .l) :: st) bc bs hp Q := Go_next (i := .dcmp .l) rfl rfl
set_option maxRecDepth 100000 in
theorem sL_law_3045 {x : Int32} : Go kL_law 3045 [a0, a1, a2, a3, a4, a5, a6, a7, a8] (.int x :: st) bc bs hp Q ↔ (x = 0 → Go kL_law 3070 [a0, a1, a2, a3, a4, a5, a6, a7, a8] st bc bs hp Q) ∧ (¬ x = 0 → Go kL_law 3048 [a0, a1, a2, a3, a4, a5, a6, a7, a8] st bc bs hp Q) := Go_ift (c := x = 0) (i := .ifCond .eq 25) rfl rfl
set_option maxRecDepth 100000 in
theorem sL_law_3048 {x : Nat} : Go kL_law 3048 [a0, a1, a2, a3, (.ref x), a5, a6, a7, a8] st bc bs hp Q ↔ Go kL_law 3050 [a0, a1, a2, a3, (.ref x), a5, a6, a7, a8] (.ref x :: st) bc bs hp Q := Go_next (i := .aload 4) rfl rfl
set_option maxRecDepth 100000 in
theorem sL_law_3050 : Go kL_law 3050 [a0, a1, a2, a3, a4, a5, a6, a7, a8] st bc bs hp Q ↔ Go kL_law 3051 [a0, a1, a2, a3, a4, a5, a6, a7, a8] (.int 0 :: st) bc bs hp Q := Go_next (i := .iconst 0) rfl rfl
set_option maxRecDepth 100000 in
theorem sL_law_3051 {x : Nat} {i : Int32} : Go kL_law 3051 [a0, a1, a2, a3, a4, a5, a6, a7, a8] (.int i :: .ref x :: st) bc bs hp Q ↔ RdD hp x i (fun v => Go kL_law 3052 [a0, a1, a2, a3, a4, a5, a6, a7, a8] (.double v :: st) bc bs hp Q) := Go_dald rfl
set_option maxRecDepth 100000 in
theorem sL_law_3052 {x : Nat} : Go kL_law 3052 [a0, a1, a2, a3, (.ref x), a5, a6, a7, a8] st bc bs hp Q ↔ Go kL_law 3054 [a0, a1, a2, a3, (.ref x), a5, a6, a7, a8] (.ref x :: st) bc bs hp Q := Go_next (i := .aload 4) rfl rfl
set_option maxRecDepth 100000 in
theorem sL_law_3054 : Go kL_law 3054 [a0, a1, a2, a3, a4, a5, a6, a7, a8] st bc bs hp Q ↔ Go kL_law 3055 [a0, a1, a2, a3, a4, a5, a6, a7, a8] (.int 0 :: st) bc bs hp Q := Go_next (i := .iconst 0) rfl rfl
set_option maxRecDepth 100000 in
theorem sL_law_3055 {x : Nat} {i : Int32} : Go kL_law 3055 [a0, a1, a2, a3, a4, a5, a6, a7, a8] (.int i :: .ref x :: st) bc bs hp Q ↔ RdD hp x i (fun v => Go kL_law 3056 [a0, a1, a2, a3, a4, a5, a6, a7, a8] (.double v :: st) bc bs hp Q) := Go_dald rfl
set_option maxRecDepth 100000 in
theorem sL_law_3056 {x y : UInt64} : Go kL_law 3056 [a0, a1, a2, a3, a4, a5, a6, a7, a8] (.double y :: .double x :: st) bc bs hp Q ↔ Go kL_law 3057 [a0, a1, a2, a3, a4, a5, a6, a7, a8] (.int (Op.cmpValue (FP.dcmp x y) .l) :: st) bc bs hp Q := Go_next (i := .dcmp .l) rfl rfl
set_option maxRecDepth 100000 in
theorem sL_law_3057 {x : Int32} : Go kL_law 3057 [a0, a1, a2, a3, a4, a5, a6, a7, a8] (.int x :: st) bc bs hp Q ↔ (x = 0 → Go kL_law 3068 [a0, a1, a2, a3, a4, a5, a6, a7, a8] st bc bs hp Q) ∧ (¬ x = 0 → Go kL_law 3060 [a0, a1, a2, a3, a4, a5, a6, a7, a8] st bc bs hp Q) := Go_ift (c := x = 0) (i := .ifCond .eq 11) rfl rfl
set_option maxRecDepth 100000 in
theorem sL_law_3060 {x : UInt64} : Go kL_law 3060 [a0, a1, a2, a3, a4, a5, a6, (.double x), a8] st bc bs hp Q ↔ Go kL_law 3062 [a0, a1, a2, a3, a4, a5, a6, (.double x), a8] (.double x :: st) bc bs hp Q := Go_next (i := .dload 7) rfl rfl
set_option maxRecDepth 100000 in
theorem sL_law_3062 {x : UInt64} : Go kL_law 3062 [a0, a1, a2, a3, a4, a5, a6, (.double x), a8] st bc bs hp Q ↔ Go kL_law 3064 [a0, a1, a2, a3, a4, a5, a6, (.double x), a8] (.double x :: st) bc bs hp Q := Go_next (i := .dload 7) rfl rfl
set_option maxRecDepth 100000 in
theorem sL_law_3064 {x y : UInt64} : Go kL_law 3064 [a0, a1, a2, a3, a4, a5, a6, a7, a8] (.double y :: .double x :: st) bc bs hp Q ↔ Go kL_law 3065 [a0, a1, a2, a3, a4, a5, a6, a7, a8] (.int (Op.cmpValue (FP.dcmp x y) .l) :: st) bc bs hp Q := Go_next (i := .dcmp .l) rfl rfl
set_option maxRecDepth 100000 in
theorem sL_law_3065 {x : Int32} : Go kL_law 3065 [a0, a1, a2, a3, a4, a5, a6, a7, a8] (.int x :: st) bc bs hp Q ↔ (¬ x = 0 → Go kL_law 3070 [a0, a1, a2, a3, a4, a5, a6, a7, a8] st bc bs hp Q) ∧ (x = 0 → Go kL_law 3068 [a0, a1, a2, a3, a4, a5, a6, a7, a8] st bc bs hp Q) := Go_ifn (c := x = 0) (i := .ifCond .ne 5) rfl rfl
set_option maxRecDepth 100000 in
theorem sL_law_3068 : Go kL_law 3068 [a0, a1, a2, a3, a4, a5, a6, a7, a8] st bc bs hp Q ↔ Go kL_law 3069 [a0, a1, a2, a3, a4, a5, a6, a7, a8] (.int 0 :: st) bc bs hp Q := Go_next (i := .iconst 0) rfl rfl
set_option maxRecDepth 100000 in
theorem sL_law_3069 {x : Int32} : Go kL_law 3069 [a0, a1, a2, a3, a4, a5, a6, a7, a8] [.int x] bc bs hp Q ↔ outI kL_law x = true ∧ Q (.inl (some (.int x))) hp := Go_retIf (i := .ireturn) rfl rfl
set_option maxRecDepth 100000 in
theorem sL_law_3070 : Go kL_law 3070 [a0, a1, a2, a3, a4, a5, a6, a7, a8] st bc bs hp Q ↔ Go kL_law 3086 [a0, a1, a2, a3, a4, a5, a6, a7, a8] st bc bs hp Q := Go_next (i := .goto 16) rfl rfl
set_option maxRecDepth 100000 in
theorem sL_law_3073 {x : Nat} : Go kL_law 3073 [a0, (.ref x), a2, a3, a4, a5, a6, a7, a8] st bc bs hp Q ↔ Go kL_law 3074 [a0, (.ref x), a2, a3, a4, a5, a6, a7, a8] (.ref x :: st) bc bs hp Q := Go_next (i := .aload_n 1) rfl rfl
set_option maxRecDepth 100000 in
theorem sL_law_3074 {x : Nat} : Go kL_law 3074 [a0, a1, a2, a3, a4, a5, a6, a7, a8] (.ref x :: st) bc bs hp Q ↔ Rcv hp x 7 ∧ nsum st ≤ 8 ∧ Call kX7_isSound [.ref x] hp (Aft kL_law 3077 [a0, a1, a2, a3, a4, a5, a6, a7, a8] st bc bs Q) := Go_invV0 rfl rfl rfl rfl rfl rfl rfl rfl rfl rfl
set_option maxRecDepth 100000 in
theorem sL_law_3077 {x : Nat} : Go kL_law 3077 [a0, a1, (.ref x), a3, a4, a5, a6, a7, a8] st bc bs hp Q ↔ Go kL_law 3078 [a0, a1, (.ref x), a3, a4, a5, a6, a7, a8] (.ref x :: st) bc bs hp Q := Go_next (i := .aload_n 2) rfl rfl
set_option maxRecDepth 100000 in
theorem sL_law_3078 {x : Nat} : Go kL_law 3078 [a0, a1, a2, a3, a4, a5, a6, a7, a8] (.ref x :: st) bc bs hp Q ↔ Rcv hp x 8 ∧ nsum st ≤ 8 ∧ Call kX8_isSound [.ref x] hp (Aft kL_law 3081 [a0, a1, a2, a3, a4, a5, a6, a7, a8] st bc bs Q) := Go_invV0 rfl rfl rfl rfl rfl rfl rfl rfl rfl rfl
set_option maxRecDepth 100000 in
theorem sL_law_3081 {x y : Int32} : Go kL_law 3081 [a0, a1, a2, a3, a4, a5, a6, a7, a8] (.int y :: .int x :: st) bc bs hp Q ↔ (x = y → Go kL_law 3086 [a0, a1, a2, a3, a4, a5, a6, a7, a8] st bc bs hp Q) ∧ (¬ x = y → Go kL_law 3084 [a0, a1, a2, a3, a4, a5, a6, a7, a8] st bc bs hp Q) := Go_ift (c := x = y) (i := .if_icmp .eq 5) rfl rfl
set_option maxRecDepth 100000 in
theorem sL_law_3084 : Go kL_law 3084 [a0, a1, a2, a3, a4, a5, a6, a7, a8] st bc bs hp Q ↔ Go kL_law 3085 [a0, a1, a2, a3, a4, a5, a6, a7, a8] (.int 0 :: st) bc bs hp Q := Go_next (i := .iconst 0) rfl rfl
set_option maxRecDepth 100000 in
theorem sL_law_3085 {x : Int32} : Go kL_law 3085 [a0, a1, a2, a3, a4, a5, a6, a7, a8] [.int x] bc bs hp Q ↔ outI kL_law x = true ∧ Q (.inl (some (.int x))) hp := Go_retIf (i := .ireturn) rfl rfl
set_option maxRecDepth 100000 in
theorem sL_law_3086 {x : Int32} (hj : a4.category = 1) : Go kL_law 3086 [a0, a1, a2, a3, a4, (.int x), a6, a7, a8] st bc bs hp Q ↔ Go kL_law 3089 [a0, a1, a2, a3, a4, (.int (x + 7)), a6, a7, a8] st bc bs hp Q := Go_sto (i := .iinc 5 7) (j := 5) (v := .int (x + 7)) rfl rfl (Nat.le_of_ble_eq_true rfl) (decide_eq_true hj) rfl
set_option maxRecDepth 100000 in
theorem sL_law_3089 : Go kL_law 3089 [a0, a1, a2, a3, a4, a5, a6, a7, a8] st bc bs hp Q ↔ Go kL_law 28 [a0, a1, a2, a3, a4, a5, a6, a7, a8] st bc bs hp Q := Go_next (i := .goto (-3061)) rfl rfl
set_option maxRecDepth 100000 in
theorem sL_law_3092 : Go kL_law 3092 [a0, a1, a2, a3, a4, a5, a6, a7, a8] st bc bs hp Q ↔ Go kL_law 3093 [a0, a1, a2, a3, a4, a5, a6, a7, a8] (.int 1 :: st) bc bs hp Q := Go_next (i := .iconst 1) rfl rfl
set_option maxRecDepth 100000 in
theorem sL_law_3093 {x : Int32} : Go kL_law 3093 [a0, a1, a2, a3, a4, a5, a6, a7, a8] [.int x] bc bs hp Q ↔ outI kL_law x = true ∧ Q (.inl (some (.int x))) hp := Go_retIf (i := .ireturn) rfl rfl
end
