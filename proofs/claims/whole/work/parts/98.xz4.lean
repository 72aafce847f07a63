/-! constructors: the heap as a list of cells laid after n -/
def hl (f : Nat → va_E) (n : Nat) (L : List va_E) : Hp := (n + L.length, fun x => if n < x then (match L[x - n - 1]? with | some e => e | none => f x) else f x)
section HL
variable {f : Nat → va_E} {n j ci i t s : Nat} {L : List va_E} {Q : Out → Hp → Prop} {bc bs : Nat} {v : Value} {x : Int32}
theorem hl_1 : (hl f n L).1 = n + L.length := rfl
theorem hl_at {e : va_E} (h : L[j]? = some e) : (hl f n L).2 (n + (j + 1)) = e := by
  show (if n < n + (j + 1) then (match L[n + (j + 1) - n - 1]? with | some e => e | none => f (n + (j + 1))) else f (n + (j + 1))) = e
  rw [if_pos (by omega), show n + (j + 1) - n - 1 = j from by omega, h]
theorem hl_add {e : va_E} : addHp (hl f n L) e = hl f n (L ++ [e]) := by
  refine Prod.ext (by simp [addHp, hl, Nat.add_assoc]) ?_
  funext y
  show va_up (hl f n L).2 (n + L.length + 1) e y = (if n < y then (match (L ++ [e])[y - n - 1]? with | some e => e | none => f y) else f y)
  by_cases hy : y = n + L.length + 1
  · subst hy
    rw [if_pos (by omega), show n + L.length + 1 - n - 1 = L.length from by omega]
    simp [va_up]
  · have e1 : va_up (hl f n L).2 (n + L.length + 1) e y = (hl f n L).2 y := by simp [va_up, hy]
    rw [e1]
    show (if n < y then (match L[y - n - 1]? with | some e => e | none => f y) else f y) = _
    by_cases hn : n < y
    · rw [if_pos hn, if_pos hn]
      by_cases hl2 : y - n - 1 < L.length
      · rw [List.getElem?_append_left hl2]
      · rw [List.getElem?_eq_none (by omega), List.getElem?_eq_none (by simp; omega)]
    · rw [if_neg hn, if_neg hn]
theorem hl_set {e : va_E} (h : j < L.length) : setHp (hl f n L) (n + (j + 1)) e = hl f n (L.set j e) := by
  refine Prod.ext (by simp [setHp, hl]) ?_
  funext y
  show va_up (hl f n L).2 (n + (j + 1)) e y = (if n < y then (match (L.set j e)[y - n - 1]? with | some e => e | none => f y) else f y)
  by_cases hy : y = n + (j + 1)
  · subst hy
    rw [if_pos (by omega), show n + (j + 1) - n - 1 = j from by omega]
    simp [va_up, List.getElem?_set, h]
  · have e1 : va_up (hl f n L).2 (n + (j + 1)) e y = (hl f n L).2 y := by simp [va_up, hy]
    rw [e1]
    show (if n < y then (match L[y - n - 1]? with | some e => e | none => f y) else f y) = _
    by_cases hn : n < y
    · rw [if_pos hn, if_pos hn, List.getElem?_set_ne (by omega)]
    · rw [if_neg hn, if_neg hn]
theorem hl_cat {L2 : List va_E} : hl (hl f n L).2 (n + L.length) L2 = hl f n (L ++ L2) := by
  refine Prod.ext (by simp [hl, Nat.add_assoc]) ?_
  funext y
  show (if n + L.length < y then (match L2[y - (n + L.length) - 1]? with | some e => e | none => (hl f n L).2 y) else (hl f n L).2 y) = (if n < y then (match (L ++ L2)[y - n - 1]? with | some e => e | none => f y) else f y)
  have e0 : (hl f n L).2 y = (if n < y then (match L[y - n - 1]? with | some e => e | none => f y) else f y) := rfl
  rw [e0]
  by_cases h1 : n + L.length < y
  · rw [if_pos h1, if_pos (show n < y by omega), if_pos (show n < y by omega), List.getElem?_append_right (by omega), List.getElem?_eq_none (l := L) (by omega), show y - n - 1 - L.length = y - (n + L.length) - 1 from by omega]
  · rw [if_neg h1]
    by_cases hn : n < y
    · rw [if_pos hn, if_pos hn, List.getElem?_append_left (by omega)]
    · rw [if_neg hn, if_neg hn]
theorem hl_obj {fs : List Value} (h : L[j]? = some (.inr (ci, fs))) : isObj (hl f n L) (n + (j + 1)) ci = some fs := by
  have hj : j < L.length := by
    by_cases q : j < L.length
    · exact q
    · rw [List.getElem?_eq_none (by omega)] at h; cases h
  exact isObj_of (hl_at h) (by omega) (by rw [hl_1]; omega)
theorem hl_wrF {fs : List Value} {K : Hp → Prop} (h : L[j]? = some (.inr (ci, fs))) (hi : i < fs.length) : WrF (hl f n L) (n + (j + 1)) ci i v K ↔ K (hl f n (L.set j (.inr (ci, fs.set i v)))) := by
  have hj : j < L.length := by
    by_cases q : j < L.length
    · exact q
    · rw [List.getElem?_eq_none (by omega)] at h; cases h
  unfold WrF
  rw [hl_obj h]
  show (i < fs.length ∧ K (setHp (hl f n L) (n + (j + 1)) (.inr (ci, fs.set i v)))) ↔ _
  rw [hl_set hj]
  exact ⟨fun q => q.2, fun q => ⟨hi, q⟩⟩
theorem hl_rdF {fs : List Value} {K : Value → Prop} (h : L[j]? = some (.inr (ci, fs))) (hi : fs[i]? = some v) : RdF (hl f n L) (n + (j + 1)) ci i K ↔ K v := by
  unfold RdF
  rw [hl_obj h]
  show (match fs[i]? with | some v => K v | none => False) ↔ _
  rw [hi]
theorem hl_wrA {g : Nat → Int32} {K : Hp → Prop} {m : Nat} (h : L[j]? = some (.inl (t, m, .inl g))) (hs : s < m) (hm : m ≤ 65536) : WrA (hl f n L) (n + (j + 1)) t (Int32.ofNat s) x K ↔ K (hl f n (L.set j (.inl (t, m, .inl (upd g s x))))) := by
  have hj : j < L.length := by
    by_cases q : j < L.length
    · exact q
    · rw [List.getElem?_eq_none (by omega)] at h; cases h
  rw [WrA_of (hl_at h) (by omega) (by rw [hl_1]; omega) hs hm, hl_set hj]
def rowN1 (k : Nat) : Nat → Int32 := fun t => if t < k then -1 else 0
theorem rowN1_upd {k : Nat} : upd (rowN1 k) k (-1) = rowN1 (k + 1) := by
  funext t
  unfold upd rowN1
  by_cases h : t = k
  · subst h; simp
  · by_cases h2 : t < k
    · simp [h, h2, show t < k + 1 from by omega]
    · simp [h, h2, show ¬ t < k + 1 from by omega]
theorem x4_loop {o : va_E} (ho : o = .inr (4, [.ref (n + 2), .int 0])) : ∀ (m k : Nat), k + m = 48 → (Go kX4_init 14 [.ref (n + 1), .int (Int32.ofNat k)] [] bc bs (hl f n [o, .inl (0, 48, .inl (rowN1 k))]) Q ↔ Q (.inl none) (hl f n [o, .inl (0, 48, .inl (rowN1 48))])) := by
  intro m
  induction m with
  | zero =>
    intro k hk
    obtain rfl : k = 48 := by omega
    rw [sX4_init_14]
    simp (disch := first | assumption | exact cat_int | exact cat_ref | exact cat_float | exact cat_null | exact isB_2 | exact isB_154 | omega) only [sX4_init_15, sX4_init_17, sX4_init_33, nT_le, nF_le, nT_lt, nF_lt, nT_eq, nF_eq, n_succ, n_add, n_neg, n_lt0, n_pred, n0_le, n0_leF, nle_0, nle_0F, n0_lt, n0_ltF, nlt_0, nlt_0F, neq_0, neq_0F, n1_le, n1_leF, nle_1, nle_1F, n1_lt, n1_ltF, nlt_1, nlt_1F, neq_1, neq_1F, n2_le, n2_leF, nle_2, nle_2F, n2_lt, n2_ltF, nlt_2, nlt_2F, neq_2, neq_2F, n3_le, n3_leF, nle_3, nle_3F, n3_lt, n3_ltF, nlt_3, nlt_3F, neq_3, neq_3F, n4_le, n4_leF, nle_4, nle_4F, n4_lt, n4_ltF, nlt_4, nlt_4F, neq_4, neq_4F, n5_le, n5_leF, nle_5, nle_5F, n5_lt, n5_ltF, nlt_5, nlt_5F, neq_5, neq_5F, n6_le, n6_leF, nle_6, nle_6F, n6_lt, n6_ltF, nlt_6, nlt_6F, neq_6, neq_6F, n7_le, n7_leF, nle_7, nle_7F, n7_lt, n7_ltF, nlt_7, nlt_7F, neq_7, neq_7F, n8_le, n8_leF, nle_8, nle_8F, n8_lt, n8_ltF, nlt_8, nlt_8F, neq_8, neq_8F, n9_le, n9_leF, nle_9, nle_9F, n9_lt, n9_ltF, nlt_9, nlt_9F, neq_9, neq_9F, n10_le, n10_leF, nle_10, nle_10F, n10_lt, n10_ltF, nlt_10, nlt_10F, neq_10, neq_10F, n11_le, n11_leF, nle_11, nle_11F, n11_lt, n11_ltF, nlt_11, nlt_11F, neq_11, neq_11F, n12_le, n12_leF, nle_12, nle_12F, n12_lt, n12_ltF, nlt_12, nlt_12F, neq_12, neq_12F, n19_le, n19_leF, nle_19, nle_19F, n19_lt, n19_ltF, nlt_19, nlt_19F, neq_19, neq_19F, n20_le, n20_leF, nle_20, nle_20F, n20_lt, n20_ltF, nlt_20, nlt_20F, neq_20, neq_20F, n30_le, n30_leF, nle_30, nle_30F, n30_lt, n30_ltF, nlt_30, nlt_30F, neq_30, neq_30F, n36_le, n36_leF, nle_36, nle_36F, n36_lt, n36_ltF, nlt_36, nlt_36F, neq_36, neq_36F, n48_le, n48_leF, nle_48, nle_48F, n48_lt, n48_ltF, nlt_48, nlt_48F, neq_48, neq_48F, n60_le, n60_leF, nle_60, nle_60F, n60_lt, n60_ltF, nlt_60, nlt_60F, neq_60, neq_60F, n63_le, n63_leF, nle_63, nle_63F, n63_lt, n63_ltF, nlt_63, nlt_63F, neq_63, neq_63F, n64_le, n64_leF, nle_64, nle_64F, n64_lt, n64_ltF, nlt_64, nlt_64F, neq_64, neq_64F, n72_le, n72_leF, nle_72, nle_72F, n72_lt, n72_ltF, nlt_72, nlt_72F, neq_72, neq_72F, n100_le, n100_leF, nle_100, nle_100F, n100_lt, n100_ltF, nlt_100, nlt_100F, neq_100, neq_100F, n144_le, n144_leF, nle_144, nle_144F, n144_lt, n144_ltF, nlt_144, nlt_144F, neq_144, neq_144F, n255_le, n255_leF, nle_255, nle_255F, n255_lt, n255_ltF, nlt_255, nlt_255F, neq_255, neq_255F, n256_le, n256_leF, nle_256, nle_256F, n256_lt, n256_ltF, nlt_256, nlt_256F, neq_256, neq_256F, n999_le, n999_leF, nle_999, nle_999F, n999_lt, n999_ltF, nlt_999, nlt_999F, neq_999, neq_999F, n1000_le, n1000_leF, nle_1000, nle_1000F, n1000_lt, n1000_ltF, nlt_1000, nlt_1000F, neq_1000, neq_1000F, n1728_le, n1728_leF, nle_1728, nle_1728F, n1728_lt, n1728_ltF, nlt_1728, nlt_1728F, neq_1728, neq_1728F, n5000_le, n5000_leF, nle_5000, nle_5000F, n5000_lt, n5000_ltF, nlt_5000, nlt_5000F, neq_5000, neq_5000F, n4_mul, n4_mulr, n12_mul, n48_mul, n_mod4, n_div4, n_mod4b, false_implies, true_implies, forall_const, not_true_eq_false, not_false_eq_true, true_and, and_true, implies_true, Aft_some, Aft_none, Aft_thr]
  | succ m ih =>
    intro k hk
    have i1 := ih (k + 1) (by omega)
    have r1 := fun K => hl_rdF (f := f) (n := n) (L := [o, .inl (0, 48, .inl (rowN1 k))]) (j := 0) (ci := 4) (i := 0) (fs := [.ref (n + 2), .int 0]) (v := .ref (n + 2)) (K := K) (by rw [ho]; rfl) rfl
    have r2 := fun K => hl_wrA (f := f) (n := n) (L := [o, .inl (0, 48, .inl (rowN1 k))]) (j := 1) (t := 0) (m := 48) (g := rowN1 k) (s := k) (x := -1) (K := K) rfl (by omega) (by omega)
    rw [rowN1_upd] at r2
    rw [sX4_init_14]
    simp (disch := first | assumption | exact cat_int | exact cat_ref | exact cat_float | exact cat_null | exact isB_2 | exact isB_154 | omega) only [sX4_init_15, sX4_init_17, sX4_init_20, sX4_init_21, sX4_init_24, sX4_init_25, sX4_init_26, sX4_init_27, sX4_init_30, r1, nT_le, nF_le, nT_lt, nF_lt, nT_eq, nF_eq, n_succ, n_add, n_neg, n_lt0, n_pred, n0_le, n0_leF, nle_0, nle_0F, n0_lt, n0_ltF, nlt_0, nlt_0F, neq_0, neq_0F, n1_le, n1_leF, nle_1, nle_1F, n1_lt, n1_ltF, nlt_1, nlt_1F, neq_1, neq_1F, n2_le, n2_leF, nle_2, nle_2F, n2_lt, n2_ltF, nlt_2, nlt_2F, neq_2, neq_2F, n3_le, n3_leF, nle_3, nle_3F, n3_lt, n3_ltF, nlt_3, nlt_3F, neq_3, neq_3F, n4_le, n4_leF, nle_4, nle_4F, n4_lt, n4_ltF, nlt_4, nlt_4F, neq_4, neq_4F, n5_le, n5_leF, nle_5, nle_5F, n5_lt, n5_ltF, nlt_5, nlt_5F, neq_5, neq_5F, n6_le, n6_leF, nle_6, nle_6F, n6_lt, n6_ltF, nlt_6, nlt_6F, neq_6, neq_6F, n7_le, n7_leF, nle_7, nle_7F, n7_lt, n7_ltF, nlt_7, nlt_7F, neq_7, neq_7F, n8_le, n8_leF, nle_8, nle_8F, n8_lt, n8_ltF, nlt_8, nlt_8F, neq_8, neq_8F, n9_le, n9_leF, nle_9, nle_9F, n9_lt, n9_ltF, nlt_9, nlt_9F, neq_9, neq_9F, n10_le, n10_leF, nle_10, nle_10F, n10_lt, n10_ltF, nlt_10, nlt_10F, neq_10, neq_10F, n11_le, n11_leF, nle_11, nle_11F, n11_lt, n11_ltF, nlt_11, nlt_11F, neq_11, neq_11F, n12_le, n12_leF, nle_12, nle_12F, n12_lt, n12_ltF, nlt_12, nlt_12F, neq_12, neq_12F, n19_le, n19_leF, nle_19, nle_19F, n19_lt, n19_ltF, nlt_19, nlt_19F, neq_19, neq_19F, n20_le, n20_leF, nle_20, nle_20F, n20_lt, n20_ltF, nlt_20, nlt_20F, neq_20, neq_20F, n30_le, n30_leF, nle_30, nle_30F, n30_lt, n30_ltF, nlt_30, nlt_30F, neq_30, neq_30F, n36_le, n36_leF, nle_36, nle_36F, n36_lt, n36_ltF, nlt_36, nlt_36F, neq_36, neq_36F, n48_le, n48_leF, nle_48, nle_48F, n48_lt, n48_ltF, nlt_48, nlt_48F, neq_48, neq_48F, n60_le, n60_leF, nle_60, nle_60F, n60_lt, n60_ltF, nlt_60, nlt_60F, neq_60, neq_60F, n63_le, n63_leF, nle_63, nle_63F, n63_lt, n63_ltF, nlt_63, nlt_63F, neq_63, neq_63F, n64_le, n64_leF, nle_64, nle_64F, n64_lt, n64_ltF, nlt_64, nlt_64F, neq_64, neq_64F, n72_le, n72_leF, nle_72, nle_72F, n72_lt, n72_ltF, nlt_72, nlt_72F, neq_72, neq_72F, n100_le, n100_leF, nle_100, nle_100F, n100_lt, n100_ltF, nlt_100, nlt_100F, neq_100, neq_100F, n144_le, n144_leF, nle_144, nle_144F, n144_lt, n144_ltF, nlt_144, nlt_144F, neq_144, neq_144F, n255_le, n255_leF, nle_255, nle_255F, n255_lt, n255_ltF, nlt_255, nlt_255F, neq_255, neq_255F, n256_le, n256_leF, nle_256, nle_256F, n256_lt, n256_ltF, nlt_256, nlt_256F, neq_256, neq_256F, n999_le, n999_leF, nle_999, nle_999F, n999_lt, n999_ltF, nlt_999, nlt_999F, neq_999, neq_999F, n1000_le, n1000_leF, nle_1000, nle_1000F, n1000_lt, n1000_ltF, nlt_1000, nlt_1000F, neq_1000, neq_1000F, n1728_le, n1728_leF, nle_1728, nle_1728F, n1728_lt, n1728_ltF, nlt_1728, nlt_1728F, neq_1728, neq_1728F, n5000_le, n5000_leF, nle_5000, nle_5000F, n5000_lt, n5000_ltF, nlt_5000, nlt_5000F, neq_5000, neq_5000F, n4_mul, n4_mulr, n12_mul, n48_mul, n_mod4, n_div4, n_mod4b, false_implies, true_implies, forall_const, not_true_eq_false, not_false_eq_true, true_and, and_true, implies_true, Aft_some, Aft_none, Aft_thr]
    rw [r2]
    exact i1
theorem rowN1_0 : (fun _ => 0 : Nat → Int32) = rowN1 0 := by
  funext t
  unfold rowN1
  rw [if_neg (by omega)]
theorem x4_init : Call kX4_init [.ref (n + 1)] (hl f n [.inr (4, dflt 4)]) Q ↔ Q (.inl none) (hl f n [.inr (4, [.ref (n + 2), .int 0]), .inl (0, 48, .inl (rowN1 48))]) := by
  have d4 : dflt 4 = [.null, .int 0] := rfl
  have h0 : Int32.ofNat 0 = 0 := rfl
  have w1 := fun K => hl_wrF (f := f) (n := n) (L := [.inr (4, [.null, .int 0]), .inl (0, 48, .inl (rowN1 0))]) (j := 0) (ci := 4) (i := 0) (fs := [.null, .int 0]) (v := .ref (n + 2)) (K := K) rfl (Nat.le_of_ble_eq_true rfl)
  have lp := fun bc bs => x4_loop (f := f) (n := n) (Q := Q) (bc := bc) (bs := bs) (o := .inr (4, [.ref (n + 2), .int 0])) rfl 48 0 rfl
  rw [h0] at lp
  rw [d4, eX4_init]
  simp (disch := first | assumption | exact cat_int | exact cat_ref | exact cat_float | exact cat_null | exact isB_2 | exact isB_154 | omega) only [sX4_init_0, sX4_init_1, sX4_init_4, sX4_init_5, sX4_init_7, hl_add, hl_1, rowN1_0, List.cons_append, List.nil_append, List.length_cons, List.length_nil, false_implies, true_implies, forall_const, not_true_eq_false, not_false_eq_true, true_and, and_true, implies_true, Aft_some, Aft_none, Aft_thr, nsum_nil, nsum_int, nsum_ref, nsum_float, nsum_long, nsum_double, Nat.reduceAdd, Nat.reduceSub, Nat.reduceLeDiff, true_and, and_true, and_self, Nat.le_refl, Nat.zero_le]
  rw [sX4_init_9]
  rw [show n + (0 + 1) + 1 = n + 2 from rfl, w1]
  simp (disch := first | assumption | exact cat_int | exact cat_ref | exact cat_float | exact cat_null | exact isB_2 | exact isB_154 | omega) only [sX4_init_12, sX4_init_13, List.set_cons_zero, List.set_cons_succ, lp, false_implies, true_implies, forall_const, not_true_eq_false, not_false_eq_true, true_and, and_true, implies_true, Aft_some, Aft_none, Aft_thr, nsum_nil, nsum_int, nsum_ref, nsum_float, nsum_long, nsum_double, Nat.reduceAdd, Nat.reduceSub, Nat.reduceLeDiff, true_and, and_true, and_self, Nat.le_refl, Nat.zero_le]
theorem x3_init : Call kX3_init [.ref (n + 1)] (hl f n [.inr (3, dflt 3)]) Q ↔ Q (.inl none) (hl f n [.inr (3, [.int 0, .int 0, .int 0, .int 0, .int 2, .int 0, .int (-1)])]) := by
  have d3 : dflt 3 = [.int 0, .int 0, .int 0, .int 0, .int 0, .int 0, .int 0] := rfl
  have w1 := fun K => hl_wrF (f := f) (n := n) (L := [.inr (3, [.int 0, .int 0, .int 0, .int 0, .int 0, .int 0, .int 0])]) (j := 0) (ci := 3) (i := 4) (fs := [.int 0, .int 0, .int 0, .int 0, .int 0, .int 0, .int 0]) (v := .int 2) (K := K) rfl (Nat.le_of_ble_eq_true rfl)
  have w2 := fun K => hl_wrF (f := f) (n := n) (L := [.inr (3, [.int 0, .int 0, .int 0, .int 0, .int 2, .int 0, .int 0])]) (j := 0) (ci := 3) (i := 6) (fs := [.int 0, .int 0, .int 0, .int 0, .int 2, .int 0, .int 0]) (v := .int (-1)) (K := K) rfl (Nat.le_of_ble_eq_true rfl)
  rw [d3, eX3_init]
  simp (disch := first | assumption | exact cat_int | exact cat_ref | exact cat_float | exact cat_null | exact isB_2 | exact isB_154 | omega) only [eX3_init, sX3_init_0, sX3_init_1, sX3_init_4, sX3_init_5, sX3_init_6, sX3_init_9, sX3_init_10, sX3_init_11, sX3_init_14, w1, List.set_cons_zero, List.set_cons_succ, false_implies, true_implies, forall_const, not_true_eq_false, not_false_eq_true, true_and, and_true, implies_true, Aft_some, Aft_none, Aft_thr, nsum_nil, nsum_int, nsum_ref, nsum_float, nsum_long, nsum_double, Nat.reduceAdd, Nat.reduceSub, Nat.reduceLeDiff, true_and, and_true, and_self, Nat.le_refl, Nat.zero_le]
  rw [w2]
  simp (disch := first | assumption | exact cat_int | exact cat_ref | exact cat_float | exact cat_null | exact isB_2 | exact isB_154 | omega) only [eX3_init, sX3_init_0, sX3_init_1, sX3_init_4, sX3_init_5, sX3_init_6, sX3_init_9, sX3_init_10, sX3_init_11, sX3_init_14, List.set_cons_zero, List.set_cons_succ, false_implies, true_implies, forall_const, not_true_eq_false, not_false_eq_true, true_and, and_true, implies_true, Aft_some, Aft_none, Aft_thr, nsum_nil, nsum_int, nsum_ref, nsum_float, nsum_long, nsum_double, Nat.reduceAdd, Nat.reduceSub, Nat.reduceLeDiff, true_and, and_true, and_self, Nat.le_refl, Nat.zero_le]
theorem x5_init : Call kX5_init [.ref (n + 1)] (hl f n [.inr (5, dflt 5)]) Q ↔ Q (.inl none) (hl f n [.inr (5, [.ref (n + 2), .int 0]), .inl (0, 12, .inl fun _ => 0)]) := by
  have d5 : dflt 5 = [.null, .int 0] := rfl
  have w1 := fun K => hl_wrF (f := f) (n := n) (L := [.inr (5, [.null, .int 0]), .inl (0, 12, .inl fun _ => 0)]) (j := 0) (ci := 5) (i := 0) (fs := [.null, .int 0]) (v := .ref (n + 2)) (K := K) rfl (Nat.le_of_ble_eq_true rfl)
  rw [d5, eX5_init]
  simp (disch := first | assumption | exact cat_int | exact cat_ref | exact cat_float | exact cat_null | exact isB_2 | exact isB_154 | omega) only [eX5_init, sX5_init_0, sX5_init_1, sX5_init_4, sX5_init_5, sX5_init_7, sX5_init_12, hl_add, hl_1, List.cons_append, List.nil_append, List.length_cons, List.length_nil, false_implies, true_implies, forall_const, not_true_eq_false, not_false_eq_true, true_and, and_true, implies_true, Aft_some, Aft_none, Aft_thr, nsum_nil, nsum_int, nsum_ref, nsum_float, nsum_long, nsum_double, Nat.reduceAdd, Nat.reduceSub, Nat.reduceLeDiff, true_and, and_true, and_self, Nat.le_refl, Nat.zero_le]
  rw [sX5_init_9, show n + (0 + 1) + 1 = n + 2 from rfl, w1]
  simp (disch := first | assumption | exact cat_int | exact cat_ref | exact cat_float | exact cat_null | exact isB_2 | exact isB_154 | omega) only [eX5_init, sX5_init_0, sX5_init_1, sX5_init_4, sX5_init_5, sX5_init_7, sX5_init_12, List.set_cons_zero, List.set_cons_succ, false_implies, true_implies, forall_const, not_true_eq_false, not_false_eq_true, true_and, and_true, implies_true, Aft_some, Aft_none, Aft_thr, nsum_nil, nsum_int, nsum_ref, nsum_float, nsum_long, nsum_double, Nat.reduceAdd, Nat.reduceSub, Nat.reduceLeDiff, true_and, and_true, and_self, Nat.le_refl, Nat.zero_le]
theorem x6_init : Call kX6_init [.ref (n + 1)] (hl f n [.inr (6, dflt 6)]) Q ↔ Q (.inl none) (hl f n [.inr (6, [.ref (n + 2), .ref (n + 3), .int 0]), .inl (0, 8, .inl fun _ => 0), .inl (0, 8, .inl fun _ => 0)]) := by
  have d6 : dflt 6 = [.null, .null, .int 0] := rfl
  have w1 := fun K => hl_wrF (f := f) (n := n) (L := [.inr (6, [.null, .null, .int 0]), .inl (0, 8, .inl fun _ => 0)]) (j := 0) (ci := 6) (i := 0) (fs := [.null, .null, .int 0]) (v := .ref (n + 2)) (K := K) rfl (Nat.le_of_ble_eq_true rfl)
  have w2 := fun K => hl_wrF (f := f) (n := n) (L := [.inr (6, [.ref (n + 2), .null, .int 0]), .inl (0, 8, .inl fun _ => 0), .inl (0, 8, .inl fun _ => 0)]) (j := 0) (ci := 6) (i := 1) (fs := [.ref (n + 2), .null, .int 0]) (v := .ref (n + 3)) (K := K) rfl (Nat.le_of_ble_eq_true rfl)
  rw [d6, eX6_init]
  simp (disch := first | assumption | exact cat_int | exact cat_ref | exact cat_float | exact cat_null | exact isB_2 | exact isB_154 | omega) only [eX6_init, sX6_init_0, sX6_init_1, sX6_init_4, sX6_init_5, sX6_init_7, sX6_init_12, sX6_init_13, sX6_init_15, sX6_init_20, hl_add, hl_1, List.cons_append, List.nil_append, List.length_cons, List.length_nil, false_implies, true_implies, forall_const, not_true_eq_false, not_false_eq_true, true_and, and_true, implies_true, Aft_some, Aft_none, Aft_thr, nsum_nil, nsum_int, nsum_ref, nsum_float, nsum_long, nsum_double, Nat.reduceAdd, Nat.reduceSub, Nat.reduceLeDiff, true_and, and_true, and_self, Nat.le_refl, Nat.zero_le]
  rw [sX6_init_9, show n + (0 + 1) + 1 = n + 2 from rfl, w1]
  simp (disch := first | assumption | exact cat_int | exact cat_ref | exact cat_float | exact cat_null | exact isB_2 | exact isB_154 | omega) only [eX6_init, sX6_init_0, sX6_init_1, sX6_init_4, sX6_init_5, sX6_init_7, sX6_init_12, sX6_init_13, sX6_init_15, sX6_init_20, hl_add, hl_1, List.set_cons_zero, List.set_cons_succ, List.cons_append, List.nil_append, List.length_cons, List.length_nil, false_implies, true_implies, forall_const, not_true_eq_false, not_false_eq_true, true_and, and_true, implies_true, Aft_some, Aft_none, Aft_thr, nsum_nil, nsum_int, nsum_ref, nsum_float, nsum_long, nsum_double, Nat.reduceAdd, Nat.reduceSub, Nat.reduceLeDiff, true_and, and_true, and_self, Nat.le_refl, Nat.zero_le]
  rw [sX6_init_17, show n + (0 + 1 + 1) + 1 = n + 3 from rfl, w2]
  simp (disch := first | assumption | exact cat_int | exact cat_ref | exact cat_float | exact cat_null | exact isB_2 | exact isB_154 | omega) only [eX6_init, sX6_init_0, sX6_init_1, sX6_init_4, sX6_init_5, sX6_init_7, sX6_init_12, sX6_init_13, sX6_init_15, sX6_init_20, List.set_cons_zero, List.set_cons_succ, false_implies, true_implies, forall_const, not_true_eq_false, not_false_eq_true, true_and, and_true, implies_true, Aft_some, Aft_none, Aft_thr, nsum_nil, nsum_int, nsum_ref, nsum_float, nsum_long, nsum_double, Nat.reduceAdd, Nat.reduceSub, Nat.reduceLeDiff, true_and, and_true, and_self, Nat.le_refl, Nat.zero_le]
theorem x0_init : Call kX0_init [.ref (n + 1)] (hl f n [.inr (0, dflt 0)]) Q ↔ Q (.inl none) (hl f n [.inr (0, [.ref (n + 2), .int 0, .int 0, .int (-1), .int (-1), .int (-1), .int 0]), .inr (4, [.ref (n + 3), .int 0]), .inl (0, 48, .inl (rowN1 48))]) := by
  have d0 : dflt 0 = [.null, .int 0, .int 0, .int 0, .int 0, .int 0, .int 0] := rfl
  have x4 := fun Q => x4_init (f := (hl f n [.inr (0, [.null, .int 0, .int 0, .int 0, .int 0, .int 0, .int 0])]).2) (n := n + 1) (Q := Q)
  have c1 : hl (hl f n [.inr (0, [.null, .int 0, .int 0, .int 0, .int 0, .int 0, .int 0])]).2 (n + 1) [.inr (4, dflt 4)] = hl f n [.inr (0, [.null, .int 0, .int 0, .int 0, .int 0, .int 0, .int 0]), .inr (4, dflt 4)] := hl_cat
  have c2 : hl (hl f n [.inr (0, [.null, .int 0, .int 0, .int 0, .int 0, .int 0, .int 0])]).2 (n + 1) [.inr (4, [.ref (n + 1 + 2), .int 0]), .inl (0, 48, .inl (rowN1 48))] = hl f n [.inr (0, [.null, .int 0, .int 0, .int 0, .int 0, .int 0, .int 0]), .inr (4, [.ref (n + 3), .int 0]), .inl (0, 48, .inl (rowN1 48))] := hl_cat
  rw [c1, c2] at x4
  have w := fun fs i v K (hi : i < fs.length) => hl_wrF (f := f) (n := n) (L := [.inr (0, fs), .inr (4, [.ref (n + 3), .int 0]), .inl (0, 48, .inl (rowN1 48))]) (j := 0) (ci := 0) (i := i) (fs := fs) (v := v) (K := K) rfl hi
  rw [d0, eX0_init]
  simp (disch := first | assumption | exact cat_int | exact cat_ref | exact cat_float | exact cat_null | exact isB_2 | exact isB_154 | omega) only [eX0_init, sX0_init_0, sX0_init_1, sX0_init_4, sX0_init_5, sX0_init_8, sX0_init_9, sX0_init_15, sX0_init_16, sX0_init_20, sX0_init_21, sX0_init_25, sX0_init_26, sX0_init_30, hl_add, hl_1, List.cons_append, List.nil_append, List.length_cons, List.length_nil, false_implies, true_implies, forall_const, not_true_eq_false, not_false_eq_true, true_and, and_true, implies_true, Aft_some, Aft_none, Aft_thr, nsum_nil, nsum_int, nsum_ref, nsum_float, nsum_long, nsum_double, Nat.reduceAdd, Nat.reduceSub, Nat.reduceLeDiff, true_and, and_true, and_self, Nat.le_refl, Nat.zero_le]
  rw [show n + (0 + 1) + 1 = n + 1 + 1 from rfl, x4]
  simp (disch := first | assumption | exact cat_int | exact cat_ref | exact cat_float | exact cat_null | exact isB_2 | exact isB_154 | omega) only [false_implies, true_implies, forall_const, not_true_eq_false, not_false_eq_true, true_and, and_true, implies_true, Aft_some, Aft_none, Aft_thr]
  rw [sX0_init_12, w _ _ _ _ (Nat.le_of_ble_eq_true rfl)]
  simp (disch := first | assumption | exact cat_int | exact cat_ref | exact cat_float | exact cat_null | exact isB_2 | exact isB_154 | omega) only [eX0_init, sX0_init_0, sX0_init_1, sX0_init_4, sX0_init_5, sX0_init_8, sX0_init_9, sX0_init_15, sX0_init_16, sX0_init_20, sX0_init_21, sX0_init_25, sX0_init_26, sX0_init_30, List.set_cons_zero, List.set_cons_succ, false_implies, true_implies, forall_const, not_true_eq_false, not_false_eq_true, true_and, and_true, implies_true, Aft_some, Aft_none, Aft_thr, nsum_nil, nsum_int, nsum_ref, nsum_float, nsum_long, nsum_double, Nat.reduceAdd, Nat.reduceSub, Nat.reduceLeDiff, true_and, and_true, and_self, Nat.le_refl, Nat.zero_le]
  rw [sX0_init_17, w _ _ _ _ (Nat.le_of_ble_eq_true rfl)]
  simp (disch := first | assumption | exact cat_int | exact cat_ref | exact cat_float | exact cat_null | exact isB_2 | exact isB_154 | omega) only [eX0_init, sX0_init_0, sX0_init_1, sX0_init_4, sX0_init_5, sX0_init_8, sX0_init_9, sX0_init_15, sX0_init_16, sX0_init_20, sX0_init_21, sX0_init_25, sX0_init_26, sX0_init_30, List.set_cons_zero, List.set_cons_succ, false_implies, true_implies, forall_const, not_true_eq_false, not_false_eq_true, true_and, and_true, implies_true, Aft_some, Aft_none, Aft_thr, nsum_nil, nsum_int, nsum_ref, nsum_float, nsum_long, nsum_double, Nat.reduceAdd, Nat.reduceSub, Nat.reduceLeDiff, true_and, and_true, and_self, Nat.le_refl, Nat.zero_le]
  rw [sX0_init_22, w _ _ _ _ (Nat.le_of_ble_eq_true rfl)]
  simp (disch := first | assumption | exact cat_int | exact cat_ref | exact cat_float | exact cat_null | exact isB_2 | exact isB_154 | omega) only [eX0_init, sX0_init_0, sX0_init_1, sX0_init_4, sX0_init_5, sX0_init_8, sX0_init_9, sX0_init_15, sX0_init_16, sX0_init_20, sX0_init_21, sX0_init_25, sX0_init_26, sX0_init_30, List.set_cons_zero, List.set_cons_succ, false_implies, true_implies, forall_const, not_true_eq_false, not_false_eq_true, true_and, and_true, implies_true, Aft_some, Aft_none, Aft_thr, nsum_nil, nsum_int, nsum_ref, nsum_float, nsum_long, nsum_double, Nat.reduceAdd, Nat.reduceSub, Nat.reduceLeDiff, true_and, and_true, and_self, Nat.le_refl, Nat.zero_le]
  rw [sX0_init_27, w _ _ _ _ (Nat.le_of_ble_eq_true rfl)]
  simp (disch := first | assumption | exact cat_int | exact cat_ref | exact cat_float | exact cat_null | exact isB_2 | exact isB_154 | omega) only [eX0_init, sX0_init_0, sX0_init_1, sX0_init_4, sX0_init_5, sX0_init_8, sX0_init_9, sX0_init_15, sX0_init_16, sX0_init_20, sX0_init_21, sX0_init_25, sX0_init_26, sX0_init_30, List.set_cons_zero, List.set_cons_succ, false_implies, true_implies, forall_const, not_true_eq_false, not_false_eq_true, true_and, and_true, implies_true, Aft_some, Aft_none, Aft_thr, nsum_nil, nsum_int, nsum_ref, nsum_float, nsum_long, nsum_double, Nat.reduceAdd, Nat.reduceSub, Nat.reduceLeDiff, true_and, and_true, and_self, Nat.le_refl, Nat.zero_le]
end HL
