/-! constructors: the class -/
section HL
variable {f : Nat → va_E} {n : Nat} {Q : Out → Hp → Prop}
def lbL (n : Nat) : List va_E := .inr (7, [.ref (n + 2), .ref (n + 154)]) :: (dkL (n + 1) 6 3 4 ++ dkL (n + 153) 6 3 4)
theorem x7_init : Call kX7_init [.ref (n + 1)] (hl f n [.inr (7, dflt 7)]) Q ↔ Q (.inl none) (hl f n (lbL n)) := by
  have d7 : dflt 7 = [.null, .null] := rfl
  have w := fun fs R i v K (hi : i < fs.length) => hl_wrF (f := f) (n := n) (L := .inr (7, fs) :: R) (j := 0) (ci := 7) (i := i) (fs := fs) (v := v) (K := K) rfl hi
  have q1 : ∀ (a : va_E) (Q : Out → Hp → Prop), Call kX2_init [.ref (n + 2)] (hl f n [a, .inr (2, dflt 2)]) Q ↔ Q (.inl none) (hl f n (a :: dkL (n + 1) 6 3 4)) := fun a Q => x2g [a] Q
  have len := fun a => show (a :: dkL (n + 1) 6 3 4).length = 153 from by rw [List.length_cons, dkL_len]
  have q2 : ∀ (a : va_E) (Q : Out → Hp → Prop), Call kX2_init [.ref (n + 154)] (hl f n (a :: (dkL (n + 1) 6 3 4 ++ [.inr (2, dflt 2)]))) Q ↔ Q (.inl none) (hl f n (a :: (dkL (n + 1) 6 3 4 ++ dkL (n + 153) 6 3 4))) := fun a Q => by
    have h := x2g (f := f) (n := n) (a :: dkL (n + 1) 6 3 4) Q
    rw [len] at h
    exact h
  have ad : ∀ a, n + (a :: dkL (n + 1) 6 3 4).length + 1 = n + 154 := fun a => by rw [len]
  rw [d7, eX7_init]
  simp (disch := first | assumption | exact cat_int | exact cat_ref | exact cat_float | exact cat_null | exact isB_2 | exact isB_154 | omega) only [eX7_init, sX7_init_0, sX7_init_1, sX7_init_4, sX7_init_8, sX7_init_9, sX7_init_15, sX7_init_19, sX7_init_20, sX7_init_26, false_implies, true_implies, forall_const, not_true_eq_false, not_false_eq_true, true_and, and_true, implies_true, Aft_some, Aft_none, Aft_thr, nsum_nil, nsum_int, nsum_ref, nsum_float, nsum_long, nsum_double, Nat.reduceAdd, Nat.reduceSub, Nat.reduceLeDiff, true_and, and_true, and_self, Nat.le_refl, Nat.zero_le]
  rw [sX7_init_5]
  simp (disch := first | assumption | exact cat_int | exact cat_ref | exact cat_float | exact cat_null | exact isB_2 | exact isB_154 | omega) only [eX7_init, sX7_init_0, sX7_init_1, sX7_init_4, sX7_init_8, sX7_init_9, sX7_init_15, sX7_init_19, sX7_init_20, sX7_init_26, hl_add, hl_1, List.cons_append, List.nil_append, List.length_singleton, false_implies, true_implies, forall_const, not_true_eq_false, not_false_eq_true, true_and, and_true, implies_true, Aft_some, Aft_none, Aft_thr, nsum_nil, nsum_int, nsum_ref, nsum_float, nsum_long, nsum_double, Nat.reduceAdd, Nat.reduceSub, Nat.reduceLeDiff, true_and, and_true, and_self, Nat.le_refl, Nat.zero_le]
  refine Iff.trans (q1 _ _) ?_
  simp (disch := first | assumption | exact cat_int | exact cat_ref | exact cat_float | exact cat_null | exact isB_2 | exact isB_154 | omega) only [false_implies, true_implies, forall_const, not_true_eq_false, not_false_eq_true, true_and, and_true, implies_true, Aft_some, Aft_none, Aft_thr]
  rw [sX7_init_12, w _ _ _ _ _ (Nat.le_of_ble_eq_true rfl), List.set_cons_zero]
  simp (disch := first | assumption | exact cat_int | exact cat_ref | exact cat_float | exact cat_null | exact isB_2 | exact isB_154 | omega) only [eX7_init, sX7_init_0, sX7_init_1, sX7_init_4, sX7_init_8, sX7_init_9, sX7_init_15, sX7_init_19, sX7_init_20, sX7_init_26, List.set_cons_zero, false_implies, true_implies, forall_const, not_true_eq_false, not_false_eq_true, true_and, and_true, implies_true, Aft_some, Aft_none, Aft_thr, nsum_nil, nsum_int, nsum_ref, nsum_float, nsum_long, nsum_double, Nat.reduceAdd, Nat.reduceSub, Nat.reduceLeDiff, true_and, and_true, and_self, Nat.le_refl, Nat.zero_le]
  rw [sX7_init_16, hl_add, hl_1, ad]
  simp (disch := first | assumption | exact cat_int | exact cat_ref | exact cat_float | exact cat_null | exact isB_2 | exact isB_154 | omega) only [eX7_init, sX7_init_0, sX7_init_1, sX7_init_4, sX7_init_8, sX7_init_9, sX7_init_15, sX7_init_19, sX7_init_20, sX7_init_26, List.cons_append, false_implies, true_implies, forall_const, not_true_eq_false, not_false_eq_true, true_and, and_true, implies_true, Aft_some, Aft_none, Aft_thr, nsum_nil, nsum_int, nsum_ref, nsum_float, nsum_long, nsum_double, Nat.reduceAdd, Nat.reduceSub, Nat.reduceLeDiff, true_and, and_true, and_self, Nat.le_refl, Nat.zero_le]
  refine Iff.trans (q2 _ _) ?_
  simp (disch := first | assumption | exact cat_int | exact cat_ref | exact cat_float | exact cat_null | exact isB_2 | exact isB_154 | omega) only [false_implies, true_implies, forall_const, not_true_eq_false, not_false_eq_true, true_and, and_true, implies_true, Aft_some, Aft_none, Aft_thr]
  rw [sX7_init_23, w _ _ _ _ _ (Nat.le_of_ble_eq_true rfl), List.set_cons_zero]
  simp (disch := first | assumption | exact cat_int | exact cat_ref | exact cat_float | exact cat_null | exact isB_2 | exact isB_154 | omega) only [eX7_init, sX7_init_0, sX7_init_1, sX7_init_4, sX7_init_8, sX7_init_9, sX7_init_15, sX7_init_19, sX7_init_20, sX7_init_26, List.set_cons_zero, List.set_cons_succ, lbL, false_implies, true_implies, forall_const, not_true_eq_false, not_false_eq_true, true_and, and_true, implies_true, Aft_some, Aft_none, Aft_thr, nsum_nil, nsum_int, nsum_ref, nsum_float, nsum_long, nsum_double, Nat.reduceAdd, Nat.reduceSub, Nat.reduceLeDiff, true_and, and_true, and_self, Nat.le_refl, Nat.zero_le]
end HL
