/-! bitsOf: the encoding, computed -/
section BITS
variable {z : Ev} {S : Nat → St} {M A : St} {Q : Out → Hp → Prop} {bc bs : Nat} {C : Nat} {q : Int} {d : UInt64} {v : UInt32}
def DB (C : Nat) (q : Int) (d : UInt64) : Prop := FP.Core.val64 d = .fin false C q
def okC (C : Nat) : Prop := 4503599627370496 ≤ C ∧ C < 9007199254740992
theorem fits64 (hC : okC C) (h1 : -1074 ≤ q) (h2 : q ≤ 971) : FP.Core.fits FP.Core.b64 (.fin false C q) := by
  have e1 : FP.Core.b64.qmin = -1074 := by decide
  have e2 : FP.Core.b64.qmax = 971 := by decide
  have e3 : FP.Core.b64.tails = 4503599627370496 := by decide
  have e4 : 2 ^ FP.Core.b64.p = 9007199254740992 := by decide
  unfold FP.Core.fits
  rw [e1, e2, e3, e4]
  exact ⟨hC.2, h1, h2, Or.inr hC.1⟩
theorem val_2 : FP.Core.val64 0x4000000000000000 = .fin false (2 ^ 52) (-51) := by decide +kernel
theorem val_23 : FP.Core.val64 0x4160000000000000 = .fin false (2 ^ 52) (-29) := by decide +kernel
theorem val_1 : FP.Core.val64 FP.dconst1 = .fin false (2 ^ 52) (-52) := by decide +kernel
theorem db_mul {y : UInt64} {r : Int} (hy : FP.Core.val64 y = .fin false (2 ^ 52) r) (h : DB C q d) (hC : okC C) (h1 : -1074 ≤ q + r + 52) (h2 : q + r + 52 ≤ 971) : DB C (q + r + 52) (FP.dmul d y) := by
  have e : FP.Core.val64 (FP.dmul d y) = FP.Core.round FP.Core.b64 (FP.Core.exactProduct (FP.Core.val64 d) (FP.Core.val64 y)) := FP.Core.val64_dmul d y
  unfold DB at h ⊢
  rw [e, h, hy]
  show FP.Core.roundRatio FP.Core.b64 false (C * 2 ^ 52) 1 (q + r) = _
  refine FP.Core.roundRatio_exact FP.Core.good_b64 (by decide) (fits64 hC h1 h2) ?_
  rw [show (q + r - (q + r + 52)).toNat = 0 from by omega, show (q + r + 52 - (q + r)).toNat = 52 from by omega, Nat.pow_zero, Nat.mul_one, Nat.mul_one]
theorem db_div (h : DB C q d) (hC : okC C) (h1 : -1074 ≤ q - 1) (h2 : q - 1 ≤ 971) : DB C (q - 1) (FP.ddiv d 0x4000000000000000) := by
  have e : FP.Core.val64 (FP.ddiv d 0x4000000000000000) = FP.Core.quotient FP.Core.b64 (FP.Core.val64 d) (FP.Core.val64 0x4000000000000000) := FP.Core.val64_ddiv d _
  unfold DB at h ⊢
  rw [e, h, val_2]
  show (if 2 ^ 52 = 0 then (if C = 0 then FP.Core.Datum.nan else .inf false) else FP.Core.roundRatio FP.Core.b64 false C (2 ^ 52) (q - -51)) = _
  rw [if_neg (by decide)]
  refine FP.Core.roundRatio_exact FP.Core.good_b64 (by decide) (fits64 hC h1 h2) ?_
  rw [show (q - -51 - (q - 1)).toNat = 52 from by omega, show (q - 1 - (q - -51)).toNat = 0 from by omega, Nat.pow_zero, Nat.mul_one]
theorem db_nn (h : DB C q d) : nn64 d = true := by
  refine nnd_of ?_
  have := (FP.Core.fin_bits d).mp ⟨_, _, _, h⟩
  omega
theorem db_zv (h : DB C q d) : FP.Core.zval FP.Core.b64 (FP.Core.val64 d) = ((C * 2 ^ (q + 1074).toNat : Nat) : Int) := by
  unfold DB at h
  rw [h]
  show ((C * 2 ^ (q - FP.Core.b64.qmin).toNat : Nat) : Int) = _
  rw [show FP.Core.b64.qmin = -1074 from by decide, show q - -1074 = q + 1074 from by omega]
theorem db_cmp {y : UInt64} {r : Int} (hy : FP.Core.val64 y = .fin false (2 ^ 52) r) (h : DB C q d) : FP.dcmp d y = some (compare ((C * 2 ^ (q + 1074).toNat : Nat) : Int) ((2 ^ 52 * 2 ^ (r + 1074).toNat : Nat) : Int)) := by
  have e : FP.dcmp d y = _ := FP.Core.dcmp_zval (a := d) (b := y) (by unfold DB at h; rw [h]; exact FP.Core.Datum.noConfusion) (by rw [hy]; exact FP.Core.Datum.noConfusion)
  rw [e, db_zv h, db_zv (d := y) (C := 2 ^ 52) (q := r) hy]
theorem db_le {r : Int} (hC : okC C) (hr : -1074 ≤ r) (h : r ≤ q) : (2 ^ 52 * 2 ^ (r + 1074).toNat : Nat) ≤ C * 2 ^ (q + 1074).toNat := Nat.mul_le_mul hC.1 (Nat.pow_le_pow_right (by decide) (by omega))
theorem db_lt {r : Int} (hC : okC C) (hq : -1074 ≤ q) (h : q < r) : C * 2 ^ (q + 1074).toNat < (2 ^ 52 * 2 ^ (r + 1074).toNat : Nat) := by
  have h1 : C * 2 ^ (q + 1074).toNat < 2 ^ 53 * 2 ^ (q + 1074).toNat := Nat.mul_lt_mul_of_pos_right hC.2 (Nat.two_pow_pos _)
  have h2 : 2 ^ 53 * 2 ^ (q + 1074).toNat = 2 ^ 52 * 2 ^ ((q + 1074).toNat + 1) := by
    rw [show (53 : Nat) = 52 + 1 from rfl, Nat.pow_succ, Nat.pow_succ 2 (q + 1074).toNat, Nat.mul_assoc, Nat.mul_comm 2]
  have h3 : 2 ^ 52 * 2 ^ ((q + 1074).toNat + 1) ≤ 2 ^ 52 * 2 ^ (r + 1074).toNat := Nat.mul_le_mul (Nat.le_refl _) (Nat.pow_le_pow_right (by decide) (by omega))
  omega
theorem ge_2 (h : DB C q d) (hC : okC C) (hq : -51 ≤ q) : ¬ Op.cmpValue (FP.dcmp d 0x4000000000000000) .l < 0 := by
  have h1 := db_le hC (by omega) hq
  rw [db_cmp val_2 h]
  by_cases e : C * 2 ^ (q + 1074).toNat = 2 ^ 52 * 2 ^ ((-51 : Int) + 1074).toNat
  · rw [(FP.Core.compare_eq_iff _ _).mpr (by rw [e])]; decide
  · rw [(FP.Core.compare_gt_iff _ _).mpr (Int.ofNat_lt.mpr (Nat.lt_of_le_of_ne h1 (Ne.symm e)))]; decide
theorem lt_2 (h : DB C q d) (hC : okC C) (hq : q < -51) (h0 : -1074 ≤ q) : Op.cmpValue (FP.dcmp d 0x4000000000000000) .l < 0 := by
  have h1 := db_lt hC h0 hq
  rw [db_cmp val_2 h, (FP.Core.compare_lt_iff _ _).mpr (Int.ofNat_lt.mpr h1)]; decide
theorem ge_1 (h : DB C q d) (hC : okC C) (hq : -52 ≤ q) : 0 ≤ Op.cmpValue (FP.dcmp d FP.dconst1) .g := by
  have h1 := db_le hC (by omega) hq
  rw [db_cmp val_1 h]
  by_cases e : C * 2 ^ (q + 1074).toNat = 2 ^ 52 * 2 ^ ((-52 : Int) + 1074).toNat
  · rw [(FP.Core.compare_eq_iff _ _).mpr (by rw [e])]; decide
  · rw [(FP.Core.compare_gt_iff _ _).mpr (Int.ofNat_lt.mpr (Nat.lt_of_le_of_ne h1 (Ne.symm e)))]; decide
theorem lt_1 (h : DB C q d) (hC : okC C) (hq : q < -52) (h0 : -1074 ≤ q) : ¬ 0 ≤ Op.cmpValue (FP.dcmp d FP.dconst1) .g := by
  have h1 := db_lt hC h0 hq
  rw [db_cmp val_1 h, (FP.Core.compare_lt_iff _ _).mpr (Int.ofNat_lt.mpr h1)]; decide
theorem dec32 {n : Nat} (h : n < 2139095040) : FP.Core.decode FP.Core.b32 n = if n / 8388608 = 0 then .fin false (n % 8388608) (-149) else .fin false (8388608 + n % 8388608) (-149 + (((n / 8388608 : Nat) : Int) - 1)) := by
  have ht : FP.Core.b32.tails = 8388608 := by decide
  have he : FP.Core.b32.exps = 256 := by decide
  have hq : FP.Core.b32.qmin = -149 := by decide
  have k1 : n / 8388608 % 256 = n / 8388608 := by omega
  have k2 : n / 8388608 / 256 = 0 := by omega
  unfold FP.Core.decode FP.Core.fieldE FP.Core.fieldT FP.Core.fieldS
  rw [ht, he, hq, k1, k2, if_neg (by omega)]
  rfl
theorem db_f2d {c L : Nat} {p : Int} (h : FP.Core.val32 v = .fin false c p) (h1 : 2 ^ L ≤ c) (h2 : c < 2 ^ (L + 1)) (hL : L ≤ 23) (hp : -149 ≤ p) (hp2 : p ≤ 104) : DB (c * 2 ^ (52 - L)) (p - 52 + L) (FP.f2d v) ∧ okC (c * 2 ^ (52 - L)) := by
  have hc : okC (c * 2 ^ (52 - L)) := by
    constructor
    · have := Nat.mul_le_mul h1 (Nat.le_refl (2 ^ (52 - L)))
      rw [← Nat.pow_add, show L + (52 - L) = 52 from by omega] at this
      exact this
    · have := Nat.mul_lt_mul_of_pos_right h2 (Nat.two_pow_pos (52 - L))
      rw [← Nat.pow_add, show L + 1 + (52 - L) = 53 from by omega] at this
      exact this
  refine ⟨?_, hc⟩
  have hn : FP.Core.fIsNaN v = false := by
    cases hx : FP.Core.fIsNaN v with
    | false => rfl
    | true => exact absurd ((FP.Core.fIsNaN_iff v).mp hx) (by rw [h]; exact FP.Core.Datum.noConfusion)
  have e : FP.Core.val64 (FP.f2d v) = FP.Core.round FP.Core.b64 (FP.Core.val32 v) := by
    unfold FP.f2d
    rw [hn]
    exact FP.Core.val64_f2d v
  unfold DB
  rw [e, h]
  show FP.Core.roundRatio FP.Core.b64 false c 1 p = _
  refine FP.Core.roundRatio_exact FP.Core.good_b64 (by decide) (fits64 hc (by omega) (by omega)) ?_
  rw [show (p - (p - 52 + L)).toNat = 52 - L from by omega, show (p - 52 + L - p).toNat = 0 from by omega, Nat.pow_zero, Nat.mul_one, Nat.mul_one]
theorem db_int {m : Nat} (h : DB C q d) (hm : m < 2147483648) (e : C * 2 ^ q.toNat = m * 2 ^ (-q).toNat) : FP.d2i d = Int32.ofNat m := by
  have hi : (Int32.ofNat m).toInt = (m : Int) := i_int hm
  have hd : FP.Core.DInt (Int32.ofNat m).toInt d := by
    unfold FP.Core.DInt
    unfold DB at h
    rw [h, hi]
    show ((C * 2 ^ q.toNat : Nat) : Int) = (m : Int) * ((2 ^ (-q).toNat : Nat) : Int)
    rw [e]
    exact Int.natCast_mul _ _
  exact FP.Core.d2i_int hd
theorem bl_skip {e : Nat} (h : DB C q d) (hC : okC C) (hq : q < -51) (h0 : -1074 ≤ q) : Go kX7_bitsOf 14 [.float v, .double d, .null, .int (Int32.ofNat e)] [] bc bs (H z S M) Q ↔ Go kX7_bitsOf 41 [.float v, .double d, .null, .int (Int32.ofNat e)] [] bc bs (H z S M) Q := by
  have hl := lt_2 h hC hq h0
  rw [sX7_bitsOf_14]
  simp (disch := first | assumption | exact cat_int | exact cat_ref | exact cat_float | exact cat_null | exact isB_2 | exact isB_154 | omega) only [eX7_bitsOf, sX7_bitsOf_0, sX7_bitsOf_1, sX7_bitsOf_2, sX7_bitsOf_3, sX7_bitsOf_6, sX7_bitsOf_7, sX7_bitsOf_8, sX7_bitsOf_9, sX7_bitsOf_10, sX7_bitsOf_11, sX7_bitsOf_13, sX7_bitsOf_15, sX7_bitsOf_18, sX7_bitsOf_19, sX7_bitsOf_22, sX7_bitsOf_23, sX7_bitsOf_26, sX7_bitsOf_29, sX7_bitsOf_30, sX7_bitsOf_33, sX7_bitsOf_34, sX7_bitsOf_35, sX7_bitsOf_38, sX7_bitsOf_42, sX7_bitsOf_43, sX7_bitsOf_44, sX7_bitsOf_47, sX7_bitsOf_48, sX7_bitsOf_49, sX7_bitsOf_52, sX7_bitsOf_53, sX7_bitsOf_56, sX7_bitsOf_57, sX7_bitsOf_58, sX7_bitsOf_61, sX7_bitsOf_64, sX7_bitsOf_65, sX7_bitsOf_66, sX7_bitsOf_67, sX7_bitsOf_69, sX7_bitsOf_70, sX7_bitsOf_71, sX7_bitsOf_74, sX7_bitsOf_75, sX7_bitsOf_76, sX7_bitsOf_77, hl, nT_le, nF_le, nT_lt, nF_lt, nT_eq, nF_eq, n_succ, n_add, n_neg, n_lt0, n_pred, n0_le, n0_leF, nle_0, nle_0F, n0_lt, n0_ltF, nlt_0, nlt_0F, neq_0, neq_0F, n1_le, n1_leF, nle_1, nle_1F, n1_lt, n1_ltF, nlt_1, nlt_1F, neq_1, neq_1F, n2_le, n2_leF, nle_2, nle_2F, n2_lt, n2_ltF, nlt_2, nlt_2F, neq_2, neq_2F, n3_le, n3_leF, nle_3, nle_3F, n3_lt, n3_ltF, nlt_3, nlt_3F, neq_3, neq_3F, n4_le, n4_leF, nle_4, nle_4F, n4_lt, n4_ltF, nlt_4, nlt_4F, neq_4, neq_4F, n5_le, n5_leF, nle_5, nle_5F, n5_lt, n5_ltF, nlt_5, nlt_5F, neq_5, neq_5F, n6_le, n6_leF, nle_6, nle_6F, n6_lt, n6_ltF, nlt_6, nlt_6F, neq_6, neq_6F, n7_le, n7_leF, nle_7, nle_7F, n7_lt, n7_ltF, nlt_7, nlt_7F, neq_7, neq_7F, n8_le, n8_leF, nle_8, nle_8F, n8_lt, n8_ltF, nlt_8, nlt_8F, neq_8, neq_8F, n9_le, n9_leF, nle_9, nle_9F, n9_lt, n9_ltF, nlt_9, nlt_9F, neq_9, neq_9F, n10_le, n10_leF, nle_10, nle_10F, n10_lt, n10_ltF, nlt_10, nlt_10F, neq_10, neq_10F, n11_le, n11_leF, nle_11, nle_11F, n11_lt, n11_ltF, nlt_11, nlt_11F, neq_11, neq_11F, n12_le, n12_leF, nle_12, nle_12F, n12_lt, n12_ltF, nlt_12, nlt_12F, neq_12, neq_12F, n19_le, n19_leF, nle_19, nle_19F, n19_lt, n19_ltF, nlt_19, nlt_19F, neq_19, neq_19F, n20_le, n20_leF, nle_20, nle_20F, n20_lt, n20_ltF, nlt_20, nlt_20F, neq_20, neq_20F, n30_le, n30_leF, nle_30, nle_30F, n30_lt, n30_ltF, nlt_30, nlt_30F, neq_30, neq_30F, n36_le, n36_leF, nle_36, nle_36F, n36_lt, n36_ltF, nlt_36, nlt_36F, neq_36, neq_36F, n48_le, n48_leF, nle_48, nle_48F, n48_lt, n48_ltF, nlt_48, nlt_48F, neq_48, neq_48F, n60_le, n60_leF, nle_60, nle_60F, n60_lt, n60_ltF, nlt_60, nlt_60F, neq_60, neq_60F, n63_le, n63_leF, nle_63, nle_63F, n63_lt, n63_ltF, nlt_63, nlt_63F, neq_63, neq_63F, n64_le, n64_leF, nle_64, nle_64F, n64_lt, n64_ltF, nlt_64, nlt_64F, neq_64, neq_64F, n72_le, n72_leF, nle_72, nle_72F, n72_lt, n72_ltF, nlt_72, nlt_72F, neq_72, neq_72F, n100_le, n100_leF, nle_100, nle_100F, n100_lt, n100_ltF, nlt_100, nlt_100F, neq_100, neq_100F, n144_le, n144_leF, nle_144, nle_144F, n144_lt, n144_ltF, nlt_144, nlt_144F, neq_144, neq_144F, n255_le, n255_leF, nle_255, nle_255F, n255_lt, n255_ltF, nlt_255, nlt_255F, neq_255, neq_255F, n256_le, n256_leF, nle_256, nle_256F, n256_lt, n256_ltF, nlt_256, nlt_256F, neq_256, neq_256F, n999_le, n999_leF, nle_999, nle_999F, n999_lt, n999_ltF, nlt_999, nlt_999F, neq_999, neq_999F, n1000_le, n1000_leF, nle_1000, nle_1000F, n1000_lt, n1000_ltF, nlt_1000, nlt_1000F, neq_1000, neq_1000F, n1728_le, n1728_leF, nle_1728, nle_1728F, n1728_lt, n1728_ltF, nlt_1728, nlt_1728F, neq_1728, neq_1728F, n5000_le, n5000_leF, nle_5000, nle_5000F, n5000_lt, n5000_ltF, nlt_5000, nlt_5000F, neq_5000, neq_5000F, n4_mul, n4_mulr, n12_mul, n48_mul, n_mod4, n_div4, n_mod4b, false_implies, true_implies, forall_const, not_true_eq_false, not_false_eq_true, true_and, and_true, implies_true, Aft_some, Aft_none, Aft_thr, nsum_nil, nsum_int, nsum_ref, nsum_float, nsum_long, nsum_double, Nat.reduceAdd, Nat.reduceSub, Nat.reduceLeDiff, true_and, and_true, and_self, Nat.le_refl, Nat.zero_le]
theorem bl_1 (hC : okC C) : ∀ (n e : Nat) (d : UInt64), DB C (-52 + (n : Int)) d → e + n ≤ 254 → ∃ d2, DB C (-52) d2 ∧ ∀ Q, (Go kX7_bitsOf 14 [.float v, .double d, .null, .int (Int32.ofNat e)] [] bc bs (H z S M) Q ↔ Go kX7_bitsOf 41 [.float v, .double d2, .null, .int (Int32.ofNat (e + n))] [] bc bs (H z S M) Q) := by
  intro n
  induction n with
  | zero =>
    intro e d h he
    have h : DB C (-52) d := h
    exact ⟨d, h, fun Q => bl_skip h hC (by omega) (by omega)⟩
  | succ n ih =>
    intro e d h he
    have hd := db_div h hC (by omega) (by omega)
    rw [show -52 + ((n + 1 : Nat) : Int) - 1 = -52 + (n : Int) from by omega] at hd
    obtain ⟨d2, i1, i2⟩ := ih (e + 1) _ hd (by omega)
    have hg := ge_2 h hC (by omega)
    have hnn := db_nn hd
    have h254 : ((254 : Int32) ≤ Int32.ofNat e) = False := nF_le (a := 254) (by omega) (by omega)
    refine ⟨d2, i1, fun Q => ?_⟩
    rw [Nat.add_right_comm] at i2
    rw [← Nat.add_assoc, ← i2 Q, sX7_bitsOf_14]
    simp (disch := first | assumption | exact cat_int | exact cat_ref | exact cat_float | exact cat_null | exact isB_2 | exact isB_154 | omega) only [eX7_bitsOf, sX7_bitsOf_0, sX7_bitsOf_1, sX7_bitsOf_2, sX7_bitsOf_3, sX7_bitsOf_6, sX7_bitsOf_7, sX7_bitsOf_8, sX7_bitsOf_9, sX7_bitsOf_10, sX7_bitsOf_11, sX7_bitsOf_13, sX7_bitsOf_15, sX7_bitsOf_18, sX7_bitsOf_19, sX7_bitsOf_22, sX7_bitsOf_23, sX7_bitsOf_26, sX7_bitsOf_29, sX7_bitsOf_30, sX7_bitsOf_33, sX7_bitsOf_34, sX7_bitsOf_35, sX7_bitsOf_38, sX7_bitsOf_42, sX7_bitsOf_43, sX7_bitsOf_44, sX7_bitsOf_47, sX7_bitsOf_48, sX7_bitsOf_49, sX7_bitsOf_52, sX7_bitsOf_53, sX7_bitsOf_56, sX7_bitsOf_57, sX7_bitsOf_58, sX7_bitsOf_61, sX7_bitsOf_64, sX7_bitsOf_65, sX7_bitsOf_66, sX7_bitsOf_67, sX7_bitsOf_69, sX7_bitsOf_70, sX7_bitsOf_71, sX7_bitsOf_74, sX7_bitsOf_75, sX7_bitsOf_76, sX7_bitsOf_77, hg, hnn, h254, nT_le, nF_le, nT_lt, nF_lt, nT_eq, nF_eq, n_succ, n_add, n_neg, n_lt0, n_pred, n0_le, n0_leF, nle_0, nle_0F, n0_lt, n0_ltF, nlt_0, nlt_0F, neq_0, neq_0F, n1_le, n1_leF, nle_1, nle_1F, n1_lt, n1_ltF, nlt_1, nlt_1F, neq_1, neq_1F, n2_le, n2_leF, nle_2, nle_2F, n2_lt, n2_ltF, nlt_2, nlt_2F, neq_2, neq_2F, n3_le, n3_leF, nle_3, nle_3F, n3_lt, n3_ltF, nlt_3, nlt_3F, neq_3, neq_3F, n4_le, n4_leF, nle_4, nle_4F, n4_lt, n4_ltF, nlt_4, nlt_4F, neq_4, neq_4F, n5_le, n5_leF, nle_5, nle_5F, n5_lt, n5_ltF, nlt_5, nlt_5F, neq_5, neq_5F, n6_le, n6_leF, nle_6, nle_6F, n6_lt, n6_ltF, nlt_6, nlt_6F, neq_6, neq_6F, n7_le, n7_leF, nle_7, nle_7F, n7_lt, n7_ltF, nlt_7, nlt_7F, neq_7, neq_7F, n8_le, n8_leF, nle_8, nle_8F, n8_lt, n8_ltF, nlt_8, nlt_8F, neq_8, neq_8F, n9_le, n9_leF, nle_9, nle_9F, n9_lt, n9_ltF, nlt_9, nlt_9F, neq_9, neq_9F, n10_le, n10_leF, nle_10, nle_10F, n10_lt, n10_ltF, nlt_10, nlt_10F, neq_10, neq_10F, n11_le, n11_leF, nle_11, nle_11F, n11_lt, n11_ltF, nlt_11, nlt_11F, neq_11, neq_11F, n12_le, n12_leF, nle_12, nle_12F, n12_lt, n12_ltF, nlt_12, nlt_12F, neq_12, neq_12F, n19_le, n19_leF, nle_19, nle_19F, n19_lt, n19_ltF, nlt_19, nlt_19F, neq_19, neq_19F, n20_le, n20_leF, nle_20, nle_20F, n20_lt, n20_ltF, nlt_20, nlt_20F, neq_20, neq_20F, n30_le, n30_leF, nle_30, nle_30F, n30_lt, n30_ltF, nlt_30, nlt_30F, neq_30, neq_30F, n36_le, n36_leF, nle_36, nle_36F, n36_lt, n36_ltF, nlt_36, nlt_36F, neq_36, neq_36F, n48_le, n48_leF, nle_48, nle_48F, n48_lt, n48_ltF, nlt_48, nlt_48F, neq_48, neq_48F, n60_le, n60_leF, nle_60, nle_60F, n60_lt, n60_ltF, nlt_60, nlt_60F, neq_60, neq_60F, n63_le, n63_leF, nle_63, nle_63F, n63_lt, n63_ltF, nlt_63, nlt_63F, neq_63, neq_63F, n64_le, n64_leF, nle_64, nle_64F, n64_lt, n64_ltF, nlt_64, nlt_64F, neq_64, neq_64F, n72_le, n72_leF, nle_72, nle_72F, n72_lt, n72_ltF, nlt_72, nlt_72F, neq_72, neq_72F, n100_le, n100_leF, nle_100, nle_100F, n100_lt, n100_ltF, nlt_100, nlt_100F, neq_100, neq_100F, n144_le, n144_leF, nle_144, nle_144F, n144_lt, n144_ltF, nlt_144, nlt_144F, neq_144, neq_144F, n255_le, n255_leF, nle_255, nle_255F, n255_lt, n255_ltF, nlt_255, nlt_255F, neq_255, neq_255F, n256_le, n256_leF, nle_256, nle_256F, n256_lt, n256_ltF, nlt_256, nlt_256F, neq_256, neq_256F, n999_le, n999_leF, nle_999, nle_999F, n999_lt, n999_ltF, nlt_999, nlt_999F, neq_999, neq_999F, n1000_le, n1000_leF, nle_1000, nle_1000F, n1000_lt, n1000_ltF, nlt_1000, nlt_1000F, neq_1000, neq_1000F, n1728_le, n1728_leF, nle_1728, nle_1728F, n1728_lt, n1728_ltF, nlt_1728, nlt_1728F, neq_1728, neq_1728F, n5000_le, n5000_leF, nle_5000, nle_5000F, n5000_lt, n5000_ltF, nlt_5000, nlt_5000F, neq_5000, neq_5000F, n4_mul, n4_mulr, n12_mul, n48_mul, n_mod4, n_div4, n_mod4b, false_implies, true_implies, forall_const, not_true_eq_false, not_false_eq_true, true_and, and_true, implies_true, Aft_some, Aft_none, Aft_thr, nsum_nil, nsum_int, nsum_ref, nsum_float, nsum_long, nsum_double, Nat.reduceAdd, Nat.reduceSub, Nat.reduceLeDiff, true_and, and_true, and_self, Nat.le_refl, Nat.zero_le]
theorem bl_2 (hC : okC C) : ∀ (n e : Nat) (d : UInt64), DB C (-52 - (n : Int)) d → n < e → e ≤ 254 → ∃ d2, DB C (-52) d2 ∧ ∀ Q, (Go kX7_bitsOf 41 [.float v, .double d, .null, .int (Int32.ofNat e)] [] bc bs (H z S M) Q ↔ Go kX7_bitsOf 64 [.float v, .double d2, .null, .int (Int32.ofNat (e - n))] [] bc bs (H z S M) Q) := by
  intro n
  induction n with
  | zero =>
    intro e d h he he2
    have h : DB C (-52) d := h
    have hg := ge_1 h hC (by omega)
    refine ⟨d, h, fun Q => ?_⟩
    rw [sX7_bitsOf_41]
    simp (disch := first | assumption | exact cat_int | exact cat_ref | exact cat_float | exact cat_null | exact isB_2 | exact isB_154 | omega) only [eX7_bitsOf, sX7_bitsOf_0, sX7_bitsOf_1, sX7_bitsOf_2, sX7_bitsOf_3, sX7_bitsOf_6, sX7_bitsOf_7, sX7_bitsOf_8, sX7_bitsOf_9, sX7_bitsOf_10, sX7_bitsOf_11, sX7_bitsOf_13, sX7_bitsOf_14, sX7_bitsOf_15, sX7_bitsOf_18, sX7_bitsOf_19, sX7_bitsOf_22, sX7_bitsOf_23, sX7_bitsOf_26, sX7_bitsOf_29, sX7_bitsOf_30, sX7_bitsOf_33, sX7_bitsOf_34, sX7_bitsOf_35, sX7_bitsOf_38, sX7_bitsOf_42, sX7_bitsOf_43, sX7_bitsOf_44, sX7_bitsOf_47, sX7_bitsOf_48, sX7_bitsOf_49, sX7_bitsOf_52, sX7_bitsOf_53, sX7_bitsOf_56, sX7_bitsOf_57, sX7_bitsOf_58, sX7_bitsOf_61, sX7_bitsOf_65, sX7_bitsOf_66, sX7_bitsOf_67, sX7_bitsOf_69, sX7_bitsOf_70, sX7_bitsOf_71, sX7_bitsOf_74, sX7_bitsOf_75, sX7_bitsOf_76, sX7_bitsOf_77, hg, Nat.sub_zero, nT_le, nF_le, nT_lt, nF_lt, nT_eq, nF_eq, n_succ, n_add, n_neg, n_lt0, n_pred, n0_le, n0_leF, nle_0, nle_0F, n0_lt, n0_ltF, nlt_0, nlt_0F, neq_0, neq_0F, n1_le, n1_leF, nle_1, nle_1F, n1_lt, n1_ltF, nlt_1, nlt_1F, neq_1, neq_1F, n2_le, n2_leF, nle_2, nle_2F, n2_lt, n2_ltF, nlt_2, nlt_2F, neq_2, neq_2F, n3_le, n3_leF, nle_3, nle_3F, n3_lt, n3_ltF, nlt_3, nlt_3F, neq_3, neq_3F, n4_le, n4_leF, nle_4, nle_4F, n4_lt, n4_ltF, nlt_4, nlt_4F, neq_4, neq_4F, n5_le, n5_leF, nle_5, nle_5F, n5_lt, n5_ltF, nlt_5, nlt_5F, neq_5, neq_5F, n6_le, n6_leF, nle_6, nle_6F, n6_lt, n6_ltF, nlt_6, nlt_6F, neq_6, neq_6F, n7_le, n7_leF, nle_7, nle_7F, n7_lt, n7_ltF, nlt_7, nlt_7F, neq_7, neq_7F, n8_le, n8_leF, nle_8, nle_8F, n8_lt, n8_ltF, nlt_8, nlt_8F, neq_8, neq_8F, n9_le, n9_leF, nle_9, nle_9F, n9_lt, n9_ltF, nlt_9, nlt_9F, neq_9, neq_9F, n10_le, n10_leF, nle_10, nle_10F, n10_lt, n10_ltF, nlt_10, nlt_10F, neq_10, neq_10F, n11_le, n11_leF, nle_11, nle_11F, n11_lt, n11_ltF, nlt_11, nlt_11F, neq_11, neq_11F, n12_le, n12_leF, nle_12, nle_12F, n12_lt, n12_ltF, nlt_12, nlt_12F, neq_12, neq_12F, n19_le, n19_leF, nle_19, nle_19F, n19_lt, n19_ltF, nlt_19, nlt_19F, neq_19, neq_19F, n20_le, n20_leF, nle_20, nle_20F, n20_lt, n20_ltF, nlt_20, nlt_20F, neq_20, neq_20F, n30_le, n30_leF, nle_30, nle_30F, n30_lt, n30_ltF, nlt_30, nlt_30F, neq_30, neq_30F, n36_le, n36_leF, nle_36, nle_36F, n36_lt, n36_ltF, nlt_36, nlt_36F, neq_36, neq_36F, n48_le, n48_leF, nle_48, nle_48F, n48_lt, n48_ltF, nlt_48, nlt_48F, neq_48, neq_48F, n60_le, n60_leF, nle_60, nle_60F, n60_lt, n60_ltF, nlt_60, nlt_60F, neq_60, neq_60F, n63_le, n63_leF, nle_63, nle_63F, n63_lt, n63_ltF, nlt_63, nlt_63F, neq_63, neq_63F, n64_le, n64_leF, nle_64, nle_64F, n64_lt, n64_ltF, nlt_64, nlt_64F, neq_64, neq_64F, n72_le, n72_leF, nle_72, nle_72F, n72_lt, n72_ltF, nlt_72, nlt_72F, neq_72, neq_72F, n100_le, n100_leF, nle_100, nle_100F, n100_lt, n100_ltF, nlt_100, nlt_100F, neq_100, neq_100F, n144_le, n144_leF, nle_144, nle_144F, n144_lt, n144_ltF, nlt_144, nlt_144F, neq_144, neq_144F, n255_le, n255_leF, nle_255, nle_255F, n255_lt, n255_ltF, nlt_255, nlt_255F, neq_255, neq_255F, n256_le, n256_leF, nle_256, nle_256F, n256_lt, n256_ltF, nlt_256, nlt_256F, neq_256, neq_256F, n999_le, n999_leF, nle_999, nle_999F, n999_lt, n999_ltF, nlt_999, nlt_999F, neq_999, neq_999F, n1000_le, n1000_leF, nle_1000, nle_1000F, n1000_lt, n1000_ltF, nlt_1000, nlt_1000F, neq_1000, neq_1000F, n1728_le, n1728_leF, nle_1728, nle_1728F, n1728_lt, n1728_ltF, nlt_1728, nlt_1728F, neq_1728, neq_1728F, n5000_le, n5000_leF, nle_5000, nle_5000F, n5000_lt, n5000_ltF, nlt_5000, nlt_5000F, neq_5000, neq_5000F, n4_mul, n4_mulr, n12_mul, n48_mul, n_mod4, n_div4, n_mod4b, false_implies, true_implies, forall_const, not_true_eq_false, not_false_eq_true, true_and, and_true, implies_true, Aft_some, Aft_none, Aft_thr, nsum_nil, nsum_int, nsum_ref, nsum_float, nsum_long, nsum_double, Nat.reduceAdd, Nat.reduceSub, Nat.reduceLeDiff, true_and, and_true, and_self, Nat.le_refl, Nat.zero_le]
  | succ n ih =>
    intro e d h he he2
    obtain ⟨e, rfl⟩ : ∃ e1, e = e1 + 1 := ⟨e - 1, by omega⟩
    have hd := db_mul val_2 h hC (by omega) (by omega)
    rw [show -52 - ((n + 1 : Nat) : Int) + -51 + 52 = -52 - (n : Int) from by omega] at hd
    obtain ⟨d2, i1, i2⟩ := ih e _ hd (by omega) (by omega)
    have hg := lt_1 h hC (by omega) (by omega)
    have hnn := db_nn hd
    have h1 : (Int32.ofNat (e + 1) ≤ (1 : Int32)) = False := nF_le (b := 1) (by omega) (by omega)
    have hp : Int32.ofNat (e + 1) + -1 = Int32.ofNat e := by rw [← Int32.sub_eq_add_neg, n_pred]
    refine ⟨d2, i1, fun Q => ?_⟩
    rw [show e + 1 - (n + 1) = e - n from by omega, ← i2 Q, sX7_bitsOf_41]
    simp (disch := first | assumption | exact cat_int | exact cat_ref | exact cat_float | exact cat_null | exact isB_2 | exact isB_154 | omega) only [eX7_bitsOf, sX7_bitsOf_0, sX7_bitsOf_1, sX7_bitsOf_2, sX7_bitsOf_3, sX7_bitsOf_6, sX7_bitsOf_7, sX7_bitsOf_8, sX7_bitsOf_9, sX7_bitsOf_10, sX7_bitsOf_11, sX7_bitsOf_13, sX7_bitsOf_14, sX7_bitsOf_15, sX7_bitsOf_18, sX7_bitsOf_19, sX7_bitsOf_22, sX7_bitsOf_23, sX7_bitsOf_26, sX7_bitsOf_29, sX7_bitsOf_30, sX7_bitsOf_33, sX7_bitsOf_34, sX7_bitsOf_35, sX7_bitsOf_38, sX7_bitsOf_42, sX7_bitsOf_43, sX7_bitsOf_44, sX7_bitsOf_47, sX7_bitsOf_48, sX7_bitsOf_49, sX7_bitsOf_52, sX7_bitsOf_53, sX7_bitsOf_56, sX7_bitsOf_57, sX7_bitsOf_58, sX7_bitsOf_61, sX7_bitsOf_65, sX7_bitsOf_66, sX7_bitsOf_67, sX7_bitsOf_69, sX7_bitsOf_70, sX7_bitsOf_71, sX7_bitsOf_74, sX7_bitsOf_75, sX7_bitsOf_76, sX7_bitsOf_77, hg, hnn, h1, hp, nT_le, nF_le, nT_lt, nF_lt, nT_eq, nF_eq, n_succ, n_add, n_neg, n_lt0, n_pred, n0_le, n0_leF, nle_0, nle_0F, n0_lt, n0_ltF, nlt_0, nlt_0F, neq_0, neq_0F, n1_le, n1_leF, nle_1, nle_1F, n1_lt, n1_ltF, nlt_1, nlt_1F, neq_1, neq_1F, n2_le, n2_leF, nle_2, nle_2F, n2_lt, n2_ltF, nlt_2, nlt_2F, neq_2, neq_2F, n3_le, n3_leF, nle_3, nle_3F, n3_lt, n3_ltF, nlt_3, nlt_3F, neq_3, neq_3F, n4_le, n4_leF, nle_4, nle_4F, n4_lt, n4_ltF, nlt_4, nlt_4F, neq_4, neq_4F, n5_le, n5_leF, nle_5, nle_5F, n5_lt, n5_ltF, nlt_5, nlt_5F, neq_5, neq_5F, n6_le, n6_leF, nle_6, nle_6F, n6_lt, n6_ltF, nlt_6, nlt_6F, neq_6, neq_6F, n7_le, n7_leF, nle_7, nle_7F, n7_lt, n7_ltF, nlt_7, nlt_7F, neq_7, neq_7F, n8_le, n8_leF, nle_8, nle_8F, n8_lt, n8_ltF, nlt_8, nlt_8F, neq_8, neq_8F, n9_le, n9_leF, nle_9, nle_9F, n9_lt, n9_ltF, nlt_9, nlt_9F, neq_9, neq_9F, n10_le, n10_leF, nle_10, nle_10F, n10_lt, n10_ltF, nlt_10, nlt_10F, neq_10, neq_10F, n11_le, n11_leF, nle_11, nle_11F, n11_lt, n11_ltF, nlt_11, nlt_11F, neq_11, neq_11F, n12_le, n12_leF, nle_12, nle_12F, n12_lt, n12_ltF, nlt_12, nlt_12F, neq_12, neq_12F, n19_le, n19_leF, nle_19, nle_19F, n19_lt, n19_ltF, nlt_19, nlt_19F, neq_19, neq_19F, n20_le, n20_leF, nle_20, nle_20F, n20_lt, n20_ltF, nlt_20, nlt_20F, neq_20, neq_20F, n30_le, n30_leF, nle_30, nle_30F, n30_lt, n30_ltF, nlt_30, nlt_30F, neq_30, neq_30F, n36_le, n36_leF, nle_36, nle_36F, n36_lt, n36_ltF, nlt_36, nlt_36F, neq_36, neq_36F, n48_le, n48_leF, nle_48, nle_48F, n48_lt, n48_ltF, nlt_48, nlt_48F, neq_48, neq_48F, n60_le, n60_leF, nle_60, nle_60F, n60_lt, n60_ltF, nlt_60, nlt_60F, neq_60, neq_60F, n63_le, n63_leF, nle_63, nle_63F, n63_lt, n63_ltF, nlt_63, nlt_63F, neq_63, neq_63F, n64_le, n64_leF, nle_64, nle_64F, n64_lt, n64_ltF, nlt_64, nlt_64F, neq_64, neq_64F, n72_le, n72_leF, nle_72, nle_72F, n72_lt, n72_ltF, nlt_72, nlt_72F, neq_72, neq_72F, n100_le, n100_leF, nle_100, nle_100F, n100_lt, n100_ltF, nlt_100, nlt_100F, neq_100, neq_100F, n144_le, n144_leF, nle_144, nle_144F, n144_lt, n144_ltF, nlt_144, nlt_144F, neq_144, neq_144F, n255_le, n255_leF, nle_255, nle_255F, n255_lt, n255_ltF, nlt_255, nlt_255F, neq_255, neq_255F, n256_le, n256_leF, nle_256, nle_256F, n256_lt, n256_ltF, nlt_256, nlt_256F, neq_256, neq_256F, n999_le, n999_leF, nle_999, nle_999F, n999_lt, n999_ltF, nlt_999, nlt_999F, neq_999, neq_999F, n1000_le, n1000_leF, nle_1000, nle_1000F, n1000_lt, n1000_ltF, nlt_1000, nlt_1000F, neq_1000, neq_1000F, n1728_le, n1728_leF, nle_1728, nle_1728F, n1728_lt, n1728_ltF, nlt_1728, nlt_1728F, neq_1728, neq_1728F, n5000_le, n5000_leF, nle_5000, nle_5000F, n5000_lt, n5000_ltF, nlt_5000, nlt_5000F, neq_5000, neq_5000F, n4_mul, n4_mulr, n12_mul, n48_mul, n_mod4, n_div4, n_mod4b, false_implies, true_implies, forall_const, not_true_eq_false, not_false_eq_true, true_and, and_true, implies_true, Aft_some, Aft_none, Aft_thr, nsum_nil, nsum_int, nsum_ref, nsum_float, nsum_long, nsum_double, Nat.reduceAdd, Nat.reduceSub, Nat.reduceLeDiff, true_and, and_true, and_self, Nat.le_refl, Nat.zero_le]
theorem bl_3 (hC : okC C) : ∀ (m : Nat) (q : Int) (d : UInt64), DB C q d → -1074 ≤ q → q + (m : Int) < -52 → m ≤ 254 → ∃ d2, DB C (q + (m : Int)) d2 ∧ ∀ Q, (Go kX7_bitsOf 41 [.float v, .double d, .null, .int (Int32.ofNat (m + 1))] [] bc bs (H z S M) Q ↔ Go kX7_bitsOf 64 [.float v, .double d2, .null, .int 1] [] bc bs (H z S M) Q) := by
  have h01 : Int32.ofNat (0 + 1) = 1 := rfl
  have h11 : (1 : Int32) ≤ 1 := by decide
  intro m
  induction m with
  | zero =>
    intro q d h h0 hq hm
    have hg := lt_1 h hC (by omega) (by omega)
    refine ⟨d, by rw [show q + ((0 : Nat) : Int) = q from by omega]; exact h, fun Q => ?_⟩
    rw [sX7_bitsOf_41, h01]
    simp (disch := first | assumption | exact cat_int | exact cat_ref | exact cat_float | exact cat_null | exact isB_2 | exact isB_154 | omega) only [eX7_bitsOf, sX7_bitsOf_0, sX7_bitsOf_1, sX7_bitsOf_2, sX7_bitsOf_3, sX7_bitsOf_6, sX7_bitsOf_7, sX7_bitsOf_8, sX7_bitsOf_9, sX7_bitsOf_10, sX7_bitsOf_11, sX7_bitsOf_13, sX7_bitsOf_14, sX7_bitsOf_15, sX7_bitsOf_18, sX7_bitsOf_19, sX7_bitsOf_22, sX7_bitsOf_23, sX7_bitsOf_26, sX7_bitsOf_29, sX7_bitsOf_30, sX7_bitsOf_33, sX7_bitsOf_34, sX7_bitsOf_35, sX7_bitsOf_38, sX7_bitsOf_42, sX7_bitsOf_43, sX7_bitsOf_44, sX7_bitsOf_47, sX7_bitsOf_48, sX7_bitsOf_49, sX7_bitsOf_52, sX7_bitsOf_53, sX7_bitsOf_56, sX7_bitsOf_57, sX7_bitsOf_58, sX7_bitsOf_61, sX7_bitsOf_65, sX7_bitsOf_66, sX7_bitsOf_67, sX7_bitsOf_69, sX7_bitsOf_70, sX7_bitsOf_71, sX7_bitsOf_74, sX7_bitsOf_75, sX7_bitsOf_76, sX7_bitsOf_77, hg, h11, nT_le, nF_le, nT_lt, nF_lt, nT_eq, nF_eq, n_succ, n_add, n_neg, n_lt0, n_pred, n0_le, n0_leF, nle_0, nle_0F, n0_lt, n0_ltF, nlt_0, nlt_0F, neq_0, neq_0F, n1_le, n1_leF, nle_1, nle_1F, n1_lt, n1_ltF, nlt_1, nlt_1F, neq_1, neq_1F, n2_le, n2_leF, nle_2, nle_2F, n2_lt, n2_ltF, nlt_2, nlt_2F, neq_2, neq_2F, n3_le, n3_leF, nle_3, nle_3F, n3_lt, n3_ltF, nlt_3, nlt_3F, neq_3, neq_3F, n4_le, n4_leF, nle_4, nle_4F, n4_lt, n4_ltF, nlt_4, nlt_4F, neq_4, neq_4F, n5_le, n5_leF, nle_5, nle_5F, n5_lt, n5_ltF, nlt_5, nlt_5F, neq_5, neq_5F, n6_le, n6_leF, nle_6, nle_6F, n6_lt, n6_ltF, nlt_6, nlt_6F, neq_6, neq_6F, n7_le, n7_leF, nle_7, nle_7F, n7_lt, n7_ltF, nlt_7, nlt_7F, neq_7, neq_7F, n8_le, n8_leF, nle_8, nle_8F, n8_lt, n8_ltF, nlt_8, nlt_8F, neq_8, neq_8F, n9_le, n9_leF, nle_9, nle_9F, n9_lt, n9_ltF, nlt_9, nlt_9F, neq_9, neq_9F, n10_le, n10_leF, nle_10, nle_10F, n10_lt, n10_ltF, nlt_10, nlt_10F, neq_10, neq_10F, n11_le, n11_leF, nle_11, nle_11F, n11_lt, n11_ltF, nlt_11, nlt_11F, neq_11, neq_11F, n12_le, n12_leF, nle_12, nle_12F, n12_lt, n12_ltF, nlt_12, nlt_12F, neq_12, neq_12F, n19_le, n19_leF, nle_19, nle_19F, n19_lt, n19_ltF, nlt_19, nlt_19F, neq_19, neq_19F, n20_le, n20_leF, nle_20, nle_20F, n20_lt, n20_ltF, nlt_20, nlt_20F, neq_20, neq_20F, n30_le, n30_leF, nle_30, nle_30F, n30_lt, n30_ltF, nlt_30, nlt_30F, neq_30, neq_30F, n36_le, n36_leF, nle_36, nle_36F, n36_lt, n36_ltF, nlt_36, nlt_36F, neq_36, neq_36F, n48_le, n48_leF, nle_48, nle_48F, n48_lt, n48_ltF, nlt_48, nlt_48F, neq_48, neq_48F, n60_le, n60_leF, nle_60, nle_60F, n60_lt, n60_ltF, nlt_60, nlt_60F, neq_60, neq_60F, n63_le, n63_leF, nle_63, nle_63F, n63_lt, n63_ltF, nlt_63, nlt_63F, neq_63, neq_63F, n64_le, n64_leF, nle_64, nle_64F, n64_lt, n64_ltF, nlt_64, nlt_64F, neq_64, neq_64F, n72_le, n72_leF, nle_72, nle_72F, n72_lt, n72_ltF, nlt_72, nlt_72F, neq_72, neq_72F, n100_le, n100_leF, nle_100, nle_100F, n100_lt, n100_ltF, nlt_100, nlt_100F, neq_100, neq_100F, n144_le, n144_leF, nle_144, nle_144F, n144_lt, n144_ltF, nlt_144, nlt_144F, neq_144, neq_144F, n255_le, n255_leF, nle_255, nle_255F, n255_lt, n255_ltF, nlt_255, nlt_255F, neq_255, neq_255F, n256_le, n256_leF, nle_256, nle_256F, n256_lt, n256_ltF, nlt_256, nlt_256F, neq_256, neq_256F, n999_le, n999_leF, nle_999, nle_999F, n999_lt, n999_ltF, nlt_999, nlt_999F, neq_999, neq_999F, n1000_le, n1000_leF, nle_1000, nle_1000F, n1000_lt, n1000_ltF, nlt_1000, nlt_1000F, neq_1000, neq_1000F, n1728_le, n1728_leF, nle_1728, nle_1728F, n1728_lt, n1728_ltF, nlt_1728, nlt_1728F, neq_1728, neq_1728F, n5000_le, n5000_leF, nle_5000, nle_5000F, n5000_lt, n5000_ltF, nlt_5000, nlt_5000F, neq_5000, neq_5000F, n4_mul, n4_mulr, n12_mul, n48_mul, n_mod4, n_div4, n_mod4b, false_implies, true_implies, forall_const, not_true_eq_false, not_false_eq_true, true_and, and_true, implies_true, Aft_some, Aft_none, Aft_thr, nsum_nil, nsum_int, nsum_ref, nsum_float, nsum_long, nsum_double, Nat.reduceAdd, Nat.reduceSub, Nat.reduceLeDiff, true_and, and_true, and_self, Nat.le_refl, Nat.zero_le]
  | succ m ih =>
    intro q d h h0 hq hm
    have hd := db_mul val_2 h hC (by omega) (by omega)
    rw [show q + -51 + 52 = q + 1 from by omega] at hd
    obtain ⟨d2, i1, i2⟩ := ih (q + 1) _ hd (by omega) (by omega) (by omega)
    have hg := lt_1 h hC (by omega) (by omega)
    have hnn := db_nn hd
    have h1 : (Int32.ofNat (m + 1 + 1) ≤ (1 : Int32)) = False := nF_le (b := 1) (by omega) (by omega)
    have hp : Int32.ofNat (m + 1 + 1) + -1 = Int32.ofNat (m + 1) := by rw [← Int32.sub_eq_add_neg, n_pred]
    refine ⟨d2, by rw [show q + ((m + 1 : Nat) : Int) = q + 1 + (m : Int) from by omega]; exact i1, fun Q => ?_⟩
    rw [← i2 Q, sX7_bitsOf_41]
    simp (disch := first | assumption | exact cat_int | exact cat_ref | exact cat_float | exact cat_null | exact isB_2 | exact isB_154 | omega) only [eX7_bitsOf, sX7_bitsOf_0, sX7_bitsOf_1, sX7_bitsOf_2, sX7_bitsOf_3, sX7_bitsOf_6, sX7_bitsOf_7, sX7_bitsOf_8, sX7_bitsOf_9, sX7_bitsOf_10, sX7_bitsOf_11, sX7_bitsOf_13, sX7_bitsOf_14, sX7_bitsOf_15, sX7_bitsOf_18, sX7_bitsOf_19, sX7_bitsOf_22, sX7_bitsOf_23, sX7_bitsOf_26, sX7_bitsOf_29, sX7_bitsOf_30, sX7_bitsOf_33, sX7_bitsOf_34, sX7_bitsOf_35, sX7_bitsOf_38, sX7_bitsOf_42, sX7_bitsOf_43, sX7_bitsOf_44, sX7_bitsOf_47, sX7_bitsOf_48, sX7_bitsOf_49, sX7_bitsOf_52, sX7_bitsOf_53, sX7_bitsOf_56, sX7_bitsOf_57, sX7_bitsOf_58, sX7_bitsOf_61, sX7_bitsOf_65, sX7_bitsOf_66, sX7_bitsOf_67, sX7_bitsOf_69, sX7_bitsOf_70, sX7_bitsOf_71, sX7_bitsOf_74, sX7_bitsOf_75, sX7_bitsOf_76, sX7_bitsOf_77, hg, hnn, h1, hp, nT_le, nF_le, nT_lt, nF_lt, nT_eq, nF_eq, n_succ, n_add, n_neg, n_lt0, n_pred, n0_le, n0_leF, nle_0, nle_0F, n0_lt, n0_ltF, nlt_0, nlt_0F, neq_0, neq_0F, n1_le, n1_leF, nle_1, nle_1F, n1_lt, n1_ltF, nlt_1, nlt_1F, neq_1, neq_1F, n2_le, n2_leF, nle_2, nle_2F, n2_lt, n2_ltF, nlt_2, nlt_2F, neq_2, neq_2F, n3_le, n3_leF, nle_3, nle_3F, n3_lt, n3_ltF, nlt_3, nlt_3F, neq_3, neq_3F, n4_le, n4_leF, nle_4, nle_4F, n4_lt, n4_ltF, nlt_4, nlt_4F, neq_4, neq_4F, n5_le, n5_leF, nle_5, nle_5F, n5_lt, n5_ltF, nlt_5, nlt_5F, neq_5, neq_5F, n6_le, n6_leF, nle_6, nle_6F, n6_lt, n6_ltF, nlt_6, nlt_6F, neq_6, neq_6F, n7_le, n7_leF, nle_7, nle_7F, n7_lt, n7_ltF, nlt_7, nlt_7F, neq_7, neq_7F, n8_le, n8_leF, nle_8, nle_8F, n8_lt, n8_ltF, nlt_8, nlt_8F, neq_8, neq_8F, n9_le, n9_leF, nle_9, nle_9F, n9_lt, n9_ltF, nlt_9, nlt_9F, neq_9, neq_9F, n10_le, n10_leF, nle_10, nle_10F, n10_lt, n10_ltF, nlt_10, nlt_10F, neq_10, neq_10F, n11_le, n11_leF, nle_11, nle_11F, n11_lt, n11_ltF, nlt_11, nlt_11F, neq_11, neq_11F, n12_le, n12_leF, nle_12, nle_12F, n12_lt, n12_ltF, nlt_12, nlt_12F, neq_12, neq_12F, n19_le, n19_leF, nle_19, nle_19F, n19_lt, n19_ltF, nlt_19, nlt_19F, neq_19, neq_19F, n20_le, n20_leF, nle_20, nle_20F, n20_lt, n20_ltF, nlt_20, nlt_20F, neq_20, neq_20F, n30_le, n30_leF, nle_30, nle_30F, n30_lt, n30_ltF, nlt_30, nlt_30F, neq_30, neq_30F, n36_le, n36_leF, nle_36, nle_36F, n36_lt, n36_ltF, nlt_36, nlt_36F, neq_36, neq_36F, n48_le, n48_leF, nle_48, nle_48F, n48_lt, n48_ltF, nlt_48, nlt_48F, neq_48, neq_48F, n60_le, n60_leF, nle_60, nle_60F, n60_lt, n60_ltF, nlt_60, nlt_60F, neq_60, neq_60F, n63_le, n63_leF, nle_63, nle_63F, n63_lt, n63_ltF, nlt_63, nlt_63F, neq_63, neq_63F, n64_le, n64_leF, nle_64, nle_64F, n64_lt, n64_ltF, nlt_64, nlt_64F, neq_64, neq_64F, n72_le, n72_leF, nle_72, nle_72F, n72_lt, n72_ltF, nlt_72, nlt_72F, neq_72, neq_72F, n100_le, n100_leF, nle_100, nle_100F, n100_lt, n100_ltF, nlt_100, nlt_100F, neq_100, neq_100F, n144_le, n144_leF, nle_144, nle_144F, n144_lt, n144_ltF, nlt_144, nlt_144F, neq_144, neq_144F, n255_le, n255_leF, nle_255, nle_255F, n255_lt, n255_ltF, nlt_255, nlt_255F, neq_255, neq_255F, n256_le, n256_leF, nle_256, nle_256F, n256_lt, n256_ltF, nlt_256, nlt_256F, neq_256, neq_256F, n999_le, n999_leF, nle_999, nle_999F, n999_lt, n999_ltF, nlt_999, nlt_999F, neq_999, neq_999F, n1000_le, n1000_leF, nle_1000, nle_1000F, n1000_lt, n1000_ltF, nlt_1000, nlt_1000F, neq_1000, neq_1000F, n1728_le, n1728_leF, nle_1728, nle_1728F, n1728_lt, n1728_ltF, nlt_1728, nlt_1728F, neq_1728, neq_1728F, n5000_le, n5000_leF, nle_5000, nle_5000F, n5000_lt, n5000_ltF, nlt_5000, nlt_5000F, neq_5000, neq_5000F, n4_mul, n4_mulr, n12_mul, n48_mul, n_mod4, n_div4, n_mod4b, false_implies, true_implies, forall_const, not_true_eq_false, not_false_eq_true, true_and, and_true, implies_true, Aft_some, Aft_none, Aft_thr, nsum_nil, nsum_int, nsum_ref, nsum_float, nsum_long, nsum_double, Nat.reduceAdd, Nat.reduceSub, Nat.reduceLeDiff, true_and, and_true, and_self, Nat.le_refl, Nat.zero_le]
theorem shl_tab : ∀ e, e < 256 → (Int32.ofNat e - 1) <<< ((23 : Int32) &&& 31) = (Int32.ofNat e - 1) * 8388608 := by decide +kernel
theorem toI_n : v.toInt32 = Int32.ofNat v.toNat := by
  have h : UInt32.ofNat v.toNat = v := UInt32.ofNat_toNat
  conv => lhs; rw [← h]
  rfl
theorem lg : ∀ (k c : Nat), 0 < c → c < 2 ^ k → ∃ L, L < k ∧ 2 ^ L ≤ c ∧ c < 2 ^ (L + 1) := by
  intro k
  induction k with
  | zero => intro c h1 h2; rw [Nat.pow_zero] at h2; omega
  | succ k ih =>
    intro c h1 h2
    by_cases h : c < 2 ^ k
    · obtain ⟨L, a1, a2, a3⟩ := ih c h1 h
      exact ⟨L, by omega, a2, a3⟩
    · exact ⟨k, by omega, by omega, h2⟩
theorem shl_b : ∀ e, e < 256 → (Int32.ofNat e - 1) <<< (23 : Int32) = (Int32.ofNat e - 1) * 8388608 := by decide +kernel
theorem bits_n {E T : Nat} (hE : E < 256) : (Int32.ofNat (E + 1) - 1) * 8388608 + Int32.ofNat (8388608 + T) = Int32.ofNat ((E + 1) * 8388608 + T) := by
  have h : Int32.ofNat E * 8388608 = Int32.ofNat (E * 8388608) := (Int32.ofNat_mul E 8388608).symm
  rw [n_pred, h, n_add, show E * 8388608 + (8388608 + T) = (E + 1) * 8388608 + T from by omega]
theorem bl_end {E T : Nat} (hE : E < 254) (hT : T < 8388608) (h : DB ((8388608 + T) * 2 ^ 29) (-52) d) (hC : okC ((8388608 + T) * 2 ^ 29)) : Go kX7_bitsOf 64 [.float v, .double d, .null, .int (Int32.ofNat (E + 1))] [] bc bs (H z S M) Q ↔ Q (.inl (some (.int (Int32.ofNat ((E + 1) * 8388608 + T))))) (H z S M) := by
  have hd := db_mul val_23 h hC (by omega) (by omega)
  have hnn := db_nn hd
  have hi := db_int (m := 8388608 + T) hd (by omega) (by
    rw [show (-52 + -29 + 52 : Int).toNat = 0 from rfl, show (-(-52 + -29 + 52) : Int).toNat = 29 from rfl, Nat.pow_zero, Nat.mul_one])
  have h1 := shl_tab (E + 1) (by omega)
  have h2 := shl_b (E + 1) (by omega)
  have h3 := bits_n (E := E) (T := T) (by omega)
  rw [sX7_bitsOf_64]
  simp (disch := first | assumption | exact cat_int | exact cat_ref | exact cat_float | exact cat_null | exact isB_2 | exact isB_154 | omega) only [eX7_bitsOf, sX7_bitsOf_0, sX7_bitsOf_1, sX7_bitsOf_2, sX7_bitsOf_3, sX7_bitsOf_6, sX7_bitsOf_7, sX7_bitsOf_8, sX7_bitsOf_9, sX7_bitsOf_10, sX7_bitsOf_11, sX7_bitsOf_13, sX7_bitsOf_14, sX7_bitsOf_15, sX7_bitsOf_18, sX7_bitsOf_19, sX7_bitsOf_22, sX7_bitsOf_23, sX7_bitsOf_26, sX7_bitsOf_29, sX7_bitsOf_30, sX7_bitsOf_33, sX7_bitsOf_34, sX7_bitsOf_35, sX7_bitsOf_38, sX7_bitsOf_41, sX7_bitsOf_42, sX7_bitsOf_43, sX7_bitsOf_44, sX7_bitsOf_47, sX7_bitsOf_48, sX7_bitsOf_49, sX7_bitsOf_52, sX7_bitsOf_53, sX7_bitsOf_56, sX7_bitsOf_57, sX7_bitsOf_58, sX7_bitsOf_61, sX7_bitsOf_65, sX7_bitsOf_66, sX7_bitsOf_67, sX7_bitsOf_69, sX7_bitsOf_70, sX7_bitsOf_71, sX7_bitsOf_74, sX7_bitsOf_75, sX7_bitsOf_76, sX7_bitsOf_77, hnn, hi, h1, h2, h3, false_implies, true_implies, forall_const, not_true_eq_false, not_false_eq_true, true_and, and_true, implies_true, Aft_some, Aft_none, Aft_thr, nsum_nil, nsum_int, nsum_ref, nsum_float, nsum_long, nsum_double, Nat.reduceAdd, Nat.reduceSub, Nat.reduceLeDiff, true_and, and_true, and_self, Nat.le_refl, Nat.zero_le]
theorem bl_sub {T : Nat} {L : Nat} (hL : L < 23) (hT : T < 8388608) (h : DB (T * 2 ^ (52 - L)) (-149 - 52 + (L : Int) + 126) d) (hC : okC (T * 2 ^ (52 - L))) : Go kX7_bitsOf 64 [.float v, .double d, .null, .int 1] [] bc bs (H z S M) Q ↔ Q (.inl (some (.int (Int32.ofNat T)))) (H z S M) := by
  have hd := db_mul val_23 h hC (by omega) (by omega)
  have hnn := db_nn hd
  have hi := db_int (m := T) hd (by omega) (by
    rw [show (-149 - 52 + (L : Int) + 126 + -29 + 52).toNat = 0 from by omega, show (-(-149 - 52 + (L : Int) + 126 + -29 + 52)).toNat = 52 - L from by omega, Nat.pow_zero, Nat.mul_one])
  have h1 : 0 + Int32.ofNat T = Int32.ofNat T := Int32.zero_add _
  have h2 : ((1 : Int32) - 1) = 0 := by decide +kernel
  have h3 : (0 : Int32) <<< ((23 : Int32) &&& 31) = 0 := by decide +kernel
  rw [sX7_bitsOf_64]
  simp (disch := first | assumption | exact cat_int | exact cat_ref | exact cat_float | exact cat_null | exact isB_2 | exact isB_154 | omega) only [eX7_bitsOf, sX7_bitsOf_0, sX7_bitsOf_1, sX7_bitsOf_2, sX7_bitsOf_3, sX7_bitsOf_6, sX7_bitsOf_7, sX7_bitsOf_8, sX7_bitsOf_9, sX7_bitsOf_10, sX7_bitsOf_11, sX7_bitsOf_13, sX7_bitsOf_14, sX7_bitsOf_15, sX7_bitsOf_18, sX7_bitsOf_19, sX7_bitsOf_22, sX7_bitsOf_23, sX7_bitsOf_26, sX7_bitsOf_29, sX7_bitsOf_30, sX7_bitsOf_33, sX7_bitsOf_34, sX7_bitsOf_35, sX7_bitsOf_38, sX7_bitsOf_41, sX7_bitsOf_42, sX7_bitsOf_43, sX7_bitsOf_44, sX7_bitsOf_47, sX7_bitsOf_48, sX7_bitsOf_49, sX7_bitsOf_52, sX7_bitsOf_53, sX7_bitsOf_56, sX7_bitsOf_57, sX7_bitsOf_58, sX7_bitsOf_61, sX7_bitsOf_65, sX7_bitsOf_66, sX7_bitsOf_67, sX7_bitsOf_69, sX7_bitsOf_70, sX7_bitsOf_71, sX7_bitsOf_74, sX7_bitsOf_75, sX7_bitsOf_76, sX7_bitsOf_77, hnn, hi, h2, h3, h1, false_implies, true_implies, forall_const, not_true_eq_false, not_false_eq_true, true_and, and_true, implies_true, Aft_some, Aft_none, Aft_thr, nsum_nil, nsum_int, nsum_ref, nsum_float, nsum_long, nsum_double, Nat.reduceAdd, Nat.reduceSub, Nat.reduceLeDiff, true_and, and_true, and_self, Nat.le_refl, Nat.zero_le]
theorem fb_gt {x : UInt32} (h : fb x) (h0 : ¬ x.toNat = 0) : 0 < Op.cmpValue (FP.fcmp x FP.fconst0) .l := by
  have e : FP.fcmp x FP.fconst0 = some (compare (zv x) (zv FP.fconst0)) := FP.Core.fcmp_zval (fin_ne (fb_fin h)) nn_0
  have h2 : ¬ zv x ≤ zv FP.fconst0 := fun q => h0 (by
    have := (zv_le (fin_ne (fb_fin h)) nn_0 (by unfold fb at h; omega) (by decide +kernel)).mp q
    rw [show (FP.fconst0 : UInt32).toNat = 0 from by decide +kernel] at this
    omega)
  rw [e, (FP.Core.compare_gt_iff _ _).mpr (by omega)]
  decide
theorem bits_c (hv : fb v) : Call kX7_bitsOf [.float v] (H z S M) Q ↔ Q (.inl (some (.int v.toInt32))) (H z S M) := by
  have h127 : Int32.ofNat 127 = 127 := rfl
  by_cases h0 : v.toNat = 0
  · have hz : v = FP.fconst0 := UInt32.toNat_inj.mp (by rw [h0]; decide +kernel)
    subst hz
    have hq : ¬ 0 < Op.cmpValue (FP.fcmp FP.fconst0 FP.fconst0) .l := by decide +kernel
    have hr : FP.fconst0.toInt32 = 0 := by decide +kernel
    simp (disch := first | assumption | exact cat_int | exact cat_ref | exact cat_float | exact cat_null | exact isB_2 | exact isB_154 | omega) only [eX7_bitsOf, sX7_bitsOf_0, sX7_bitsOf_1, sX7_bitsOf_2, sX7_bitsOf_3, sX7_bitsOf_6, sX7_bitsOf_7, sX7_bitsOf_8, sX7_bitsOf_9, sX7_bitsOf_10, sX7_bitsOf_11, sX7_bitsOf_13, sX7_bitsOf_15, sX7_bitsOf_18, sX7_bitsOf_19, sX7_bitsOf_22, sX7_bitsOf_23, sX7_bitsOf_26, sX7_bitsOf_29, sX7_bitsOf_30, sX7_bitsOf_33, sX7_bitsOf_34, sX7_bitsOf_35, sX7_bitsOf_38, sX7_bitsOf_42, sX7_bitsOf_43, sX7_bitsOf_44, sX7_bitsOf_47, sX7_bitsOf_48, sX7_bitsOf_49, sX7_bitsOf_52, sX7_bitsOf_53, sX7_bitsOf_56, sX7_bitsOf_57, sX7_bitsOf_58, sX7_bitsOf_61, sX7_bitsOf_65, sX7_bitsOf_66, sX7_bitsOf_67, sX7_bitsOf_69, sX7_bitsOf_70, sX7_bitsOf_71, sX7_bitsOf_74, sX7_bitsOf_75, sX7_bitsOf_76, sX7_bitsOf_77, hq, hr, false_implies, true_implies, forall_const, not_true_eq_false, not_false_eq_true, true_and, and_true, implies_true, Aft_some, Aft_none, Aft_thr, nsum_nil, nsum_int, nsum_ref, nsum_float, nsum_long, nsum_double, Nat.reduceAdd, Nat.reduceSub, Nat.reduceLeDiff, true_and, and_true, and_self, Nat.le_refl, Nat.zero_le]
  · have hgt := fb_gt hv h0
    have hd32 : FP.Core.val32 v = _ := dec32 (n := v.toNat) (by unfold fb at hv; omega)
    rw [toI_n]
    by_cases hE : v.toNat / 8388608 = 0
    · rw [if_pos hE] at hd32
      have hT : v.toNat % 8388608 < 8388608 := Nat.mod_lt _ (by decide)
      have hTn : v.toNat % 8388608 = v.toNat := by omega
      rw [hTn] at hd32 hT
      obtain ⟨L, hL, l1, l2⟩ := lg 23 v.toNat (by omega) hT
      obtain ⟨hd, hC⟩ := db_f2d hd32 l1 l2 (by omega) (by omega) (by omega)
      have hnn := db_nn hd
      have s1 := fun Q bc bs => bl_skip (z := z) (S := S) (M := M) (Q := Q) (bc := bc) (bs := bs) (v := v) (e := 127) hd hC (by omega) (by omega)
      obtain ⟨d2, hd2, s2⟩ := bl_3 (z := z) (S := S) (M := M) (bc := 0) (bs := 0) (v := v) hC 126 _ _ hd (by omega) (by omega) (by omega)
      have s3 := fun Q bc bs => bl_sub (z := z) (S := S) (M := M) (Q := Q) (bc := bc) (bs := bs) (v := v) hL hT hd2 hC
      rw [show 126 + 1 = 127 from rfl, h127] at s2
      rw [h127] at s1
      simp (disch := first | assumption | exact cat_int | exact cat_ref | exact cat_float | exact cat_null | exact isB_2 | exact isB_154 | omega) only [eX7_bitsOf, sX7_bitsOf_0, sX7_bitsOf_1, sX7_bitsOf_2, sX7_bitsOf_3, sX7_bitsOf_6, sX7_bitsOf_7, sX7_bitsOf_8, sX7_bitsOf_9, sX7_bitsOf_10, sX7_bitsOf_11, sX7_bitsOf_13, sX7_bitsOf_15, sX7_bitsOf_18, sX7_bitsOf_19, sX7_bitsOf_22, sX7_bitsOf_23, sX7_bitsOf_26, sX7_bitsOf_29, sX7_bitsOf_30, sX7_bitsOf_33, sX7_bitsOf_34, sX7_bitsOf_35, sX7_bitsOf_38, sX7_bitsOf_42, sX7_bitsOf_43, sX7_bitsOf_44, sX7_bitsOf_47, sX7_bitsOf_48, sX7_bitsOf_49, sX7_bitsOf_52, sX7_bitsOf_53, sX7_bitsOf_56, sX7_bitsOf_57, sX7_bitsOf_58, sX7_bitsOf_61, sX7_bitsOf_65, sX7_bitsOf_66, sX7_bitsOf_67, sX7_bitsOf_69, sX7_bitsOf_70, sX7_bitsOf_71, sX7_bitsOf_74, sX7_bitsOf_75, sX7_bitsOf_76, sX7_bitsOf_77, hgt, hnn, s1, s2, s3, false_implies, true_implies, forall_const, not_true_eq_false, not_false_eq_true, true_and, and_true, implies_true, Aft_some, Aft_none, Aft_thr, nsum_nil, nsum_int, nsum_ref, nsum_float, nsum_long, nsum_double, Nat.reduceAdd, Nat.reduceSub, Nat.reduceLeDiff, true_and, and_true, and_self, Nat.le_refl, Nat.zero_le]
    · rw [if_neg hE] at hd32
      have hT : v.toNat % 8388608 < 8388608 := Nat.mod_lt _ (by decide)
      have hEl : v.toNat / 8388608 ≤ 135 := by unfold fb at hv; omega
      have hvv : v.toNat = (v.toNat / 8388608 - 1 + 1) * 8388608 + v.toNat % 8388608 := by omega
      obtain ⟨hd, hC⟩ := db_f2d (L := 23) hd32 (by omega) (by omega) (by omega) (by omega) (by omega)
      have hnn := db_nn hd
      rw [show 52 - 23 = 29 from rfl] at hd hC
      have fin := fun d2 (hd2 : DB ((8388608 + v.toNat % 8388608) * 2 ^ 29) (-52) d2) Q bc bs => bl_end (z := z) (S := S) (M := M) (Q := Q) (bc := bc) (bs := bs) (v := v) (E := v.toNat / 8388608 - 1) (by omega) hT hd2 hC
      rw [← hvv, show v.toNat / 8388608 - 1 + 1 = v.toNat / 8388608 from by omega] at fin
      by_cases hb : 127 ≤ v.toNat / 8388608
      · obtain ⟨d2, hd2, s1⟩ := bl_1 (z := z) (S := S) (M := M) (bc := 0) (bs := 0) (v := v) hC (v.toNat / 8388608 - 127) 127 _ (by rw [show -52 + ((v.toNat / 8388608 - 127 : Nat) : Int) = -149 + (((v.toNat / 8388608 : Nat) : Int) - 1) - 52 + ((23 : Nat) : Int) from by omega]; exact hd) (by omega)
        rw [show 127 + (v.toNat / 8388608 - 127) = v.toNat / 8388608 from by omega, h127] at s1
        obtain ⟨d3, hd3, s2⟩ := bl_2 (z := z) (S := S) (M := M) (bc := 0) (bs := 0) (v := v) hC 0 (v.toNat / 8388608) d2 hd2 (by omega) (by omega)
        rw [Nat.sub_zero] at s2
        have s3 := fin d3 hd3
        simp (disch := first | assumption | exact cat_int | exact cat_ref | exact cat_float | exact cat_null | exact isB_2 | exact isB_154 | omega) only [eX7_bitsOf, sX7_bitsOf_0, sX7_bitsOf_1, sX7_bitsOf_2, sX7_bitsOf_3, sX7_bitsOf_6, sX7_bitsOf_7, sX7_bitsOf_8, sX7_bitsOf_9, sX7_bitsOf_10, sX7_bitsOf_11, sX7_bitsOf_13, sX7_bitsOf_15, sX7_bitsOf_18, sX7_bitsOf_19, sX7_bitsOf_22, sX7_bitsOf_23, sX7_bitsOf_26, sX7_bitsOf_29, sX7_bitsOf_30, sX7_bitsOf_33, sX7_bitsOf_34, sX7_bitsOf_35, sX7_bitsOf_38, sX7_bitsOf_42, sX7_bitsOf_43, sX7_bitsOf_44, sX7_bitsOf_47, sX7_bitsOf_48, sX7_bitsOf_49, sX7_bitsOf_52, sX7_bitsOf_53, sX7_bitsOf_56, sX7_bitsOf_57, sX7_bitsOf_58, sX7_bitsOf_61, sX7_bitsOf_65, sX7_bitsOf_66, sX7_bitsOf_67, sX7_bitsOf_69, sX7_bitsOf_70, sX7_bitsOf_71, sX7_bitsOf_74, sX7_bitsOf_75, sX7_bitsOf_76, sX7_bitsOf_77, hgt, hnn, s1, s2, s3, false_implies, true_implies, forall_const, not_true_eq_false, not_false_eq_true, true_and, and_true, implies_true, Aft_some, Aft_none, Aft_thr, nsum_nil, nsum_int, nsum_ref, nsum_float, nsum_long, nsum_double, Nat.reduceAdd, Nat.reduceSub, Nat.reduceLeDiff, true_and, and_true, and_self, Nat.le_refl, Nat.zero_le]
      · have s1 := fun Q bc bs => bl_skip (z := z) (S := S) (M := M) (Q := Q) (bc := bc) (bs := bs) (v := v) (e := 127) hd hC (by omega) (by omega)
        rw [h127] at s1
        obtain ⟨d3, hd3, s2⟩ := bl_2 (z := z) (S := S) (M := M) (bc := 0) (bs := 0) (v := v) hC (127 - v.toNat / 8388608) 127 _ (by rw [show -52 - ((127 - v.toNat / 8388608 : Nat) : Int) = -149 + (((v.toNat / 8388608 : Nat) : Int) - 1) - 52 + ((23 : Nat) : Int) from by omega]; exact hd) (by omega) (by omega)
        rw [show 127 - (127 - v.toNat / 8388608) = v.toNat / 8388608 from by omega, h127] at s2
        have s3 := fin d3 hd3
        simp (disch := first | assumption | exact cat_int | exact cat_ref | exact cat_float | exact cat_null | exact isB_2 | exact isB_154 | omega) only [eX7_bitsOf, sX7_bitsOf_0, sX7_bitsOf_1, sX7_bitsOf_2, sX7_bitsOf_3, sX7_bitsOf_6, sX7_bitsOf_7, sX7_bitsOf_8, sX7_bitsOf_9, sX7_bitsOf_10, sX7_bitsOf_11, sX7_bitsOf_13, sX7_bitsOf_15, sX7_bitsOf_18, sX7_bitsOf_19, sX7_bitsOf_22, sX7_bitsOf_23, sX7_bitsOf_26, sX7_bitsOf_29, sX7_bitsOf_30, sX7_bitsOf_33, sX7_bitsOf_34, sX7_bitsOf_35, sX7_bitsOf_38, sX7_bitsOf_42, sX7_bitsOf_43, sX7_bitsOf_44, sX7_bitsOf_47, sX7_bitsOf_48, sX7_bitsOf_49, sX7_bitsOf_52, sX7_bitsOf_53, sX7_bitsOf_56, sX7_bitsOf_57, sX7_bitsOf_58, sX7_bitsOf_61, sX7_bitsOf_65, sX7_bitsOf_66, sX7_bitsOf_67, sX7_bitsOf_69, sX7_bitsOf_70, sX7_bitsOf_71, sX7_bitsOf_74, sX7_bitsOf_75, sX7_bitsOf_76, sX7_bitsOf_77, hgt, hnn, s1, s2, s3, false_implies, true_implies, forall_const, not_true_eq_false, not_false_eq_true, true_and, and_true, implies_true, Aft_some, Aft_none, Aft_thr, nsum_nil, nsum_int, nsum_ref, nsum_float, nsum_long, nsum_double, Nat.reduceAdd, Nat.reduceSub, Nat.reduceLeDiff, true_and, and_true, and_self, Nat.le_refl, Nat.zero_le]
end BITS
