/-! whole numbers below 2^31 as ints: what simp may use with omega at its side. Laid by gen/num.py. -/
theorem i_eq {a b : Nat} (ha : a < 2147483648) (hb : b < 2147483648) : Int32.ofNat a = Int32.ofNat b ↔ a = b := by
  constructor
  · intro h
    have := congrArg Int32.toInt h
    rw [i_int ha, i_int hb] at this
    omega
  · intro h; rw [h]
theorem nT_le {a b : Nat} (h : a ≤ b) (hb : b < 2147483648) : (Int32.ofNat a ≤ Int32.ofNat b) = True := eq_true ((i_le (by omega) hb).mpr h)
theorem nF_le {a b : Nat} (h : b < a) (hb : a < 2147483648) : (Int32.ofNat a ≤ Int32.ofNat b) = False := eq_false (fun h2 => absurd ((i_le hb (by omega)).mp h2) (by omega))
theorem nT_lt {a b : Nat} (h : a < b) (hb : b < 2147483648) : (Int32.ofNat a < Int32.ofNat b) = True := eq_true ((i_lt (by omega) hb).mpr h)
theorem nF_lt {a b : Nat} (h : b ≤ a) (hb : a < 2147483648) : (Int32.ofNat a < Int32.ofNat b) = False := eq_false (fun h2 => absurd ((i_lt hb (by omega)).mp h2) (by omega))
theorem nT_eq {a b : Nat} (h : a = b) : (Int32.ofNat a = Int32.ofNat b) = True := eq_true (by rw [h])
theorem nF_eq {a b : Nat} (h : a ≠ b) (ha : a < 2147483648) (hb : b < 2147483648) : (Int32.ofNat a = Int32.ofNat b) = False := eq_false (fun h2 => h ((i_eq ha hb).mp h2))
theorem n_succ {j : Nat} : Int32.ofNat j + 1 = Int32.ofNat (j + 1) := (Int32.ofNat_add j 1).symm
theorem n_add {a b : Nat} : Int32.ofNat a + Int32.ofNat b = Int32.ofNat (a + b) := (Int32.ofNat_add a b).symm
theorem n_neg {a : Nat} (ha : a < 2147483648) : (Int32.ofNat a = -1) = False := eq_false (fun h => by
  have := congrArg Int32.toInt h
  rw [i_int ha] at this
  have h1 : (-1 : Int32).toInt = -1 := rfl
  omega)
theorem n_lt0 {a : Nat} (ha : a < 2147483648) : (Int32.ofNat a < 0) = False := nF_lt (b := 0) (by omega) ha
theorem n_pred {j : Nat} : Int32.ofNat (j + 1) - 1 = Int32.ofNat j := by
  rw [← n_succ]
  exact Int32.add_sub_cancel _ _
theorem n4_mul {l : Nat} : 4 * Int32.ofNat l = Int32.ofNat (4 * l) := (Int32.ofNat_mul 4 l).symm
theorem n12_mul {l : Nat} : 12 * Int32.ofNat l = Int32.ofNat (12 * l) := (Int32.ofNat_mul 12 l).symm
theorem n48_mul {l : Nat} : 48 * Int32.ofNat l = Int32.ofNat (48 * l) := (Int32.ofNat_mul 48 l).symm
theorem n4_mulr {l : Nat} : Int32.ofNat l * 4 = Int32.ofNat (4 * l) := by rw [Nat.mul_comm]; exact (Int32.ofNat_mul l 4).symm
theorem i_div {a b : Nat} (ha : a < 2147483648) (hb : b < 2147483648) : Int32.ofNat a / Int32.ofNat b = Int32.ofNat (a / b) := by
  apply Int32.toInt.inj
  have hq : a / b < 2147483648 := Nat.lt_of_le_of_lt (Nat.div_le_self a b) ha
  rw [Int32.toInt_div, i_int ha, i_int hb, i_int hq, Int.tdiv_eq_ediv_of_nonneg (by omega)]
  have h0 : ((a : Int) / (b : Int)) = ((a / b : Nat) : Int) := by omega
  rw [h0]
  generalize a / b = q at hq
  apply Int.bmod_eq_of_le <;> omega
theorem i_sub {a b : Nat} (h : b ≤ a) : Int32.ofNat a - Int32.ofNat b = Int32.ofNat (a - b) := by
  obtain ⟨c, rfl⟩ := Nat.exists_eq_add_of_le h
  rw [Nat.add_sub_cancel_left, Int32.ofNat_add, Int32.add_comm]
  exact Int32.add_sub_cancel _ _
theorem i_rem {a b : Nat} (ha : a < 2147483648) (hb : b < 2147483648) : Int32.ofNat a - Int32.ofNat a / Int32.ofNat b * Int32.ofNat b = Int32.ofNat (a % b) := by
  rw [i_div ha hb, ← Int32.ofNat_mul, i_sub (Nat.div_mul_le_self a b)]
  congr 1
  have := Nat.div_add_mod a b
  rw [Nat.mul_comm] at this
  omega
theorem n_mod4 {s : Nat} (h : s < 2147483648) : Int32.ofNat s - Int32.ofNat s / 4 * 4 = Int32.ofNat (s % 4) := i_rem (b := 4) h (by omega)
theorem n_div4 {s : Nat} (h : s < 2147483648) : Int32.ofNat s / 4 = Int32.ofNat (s / 4) := i_div (b := 4) h (by omega)
theorem n0_le {j : Nat} (h : 0 ≤ j) (hj : j < 2147483648) : ((0 : Int32) ≤ Int32.ofNat j) = True := nT_le (a := 0) h hj
theorem n0_leF {j : Nat} (h : j < 0) : ((0 : Int32) ≤ Int32.ofNat j) = False := nF_le (a := 0) h (by omega)
theorem nle_0 {j : Nat} (h : j ≤ 0) : (Int32.ofNat j ≤ (0 : Int32)) = True := nT_le (b := 0) h (by omega)
theorem nle_0F {j : Nat} (h : 0 < j) (hj : j < 2147483648) : (Int32.ofNat j ≤ (0 : Int32)) = False := nF_le (b := 0) h hj
theorem n0_lt {j : Nat} (h : 0 < j) (hj : j < 2147483648) : ((0 : Int32) < Int32.ofNat j) = True := nT_lt (a := 0) h hj
theorem n0_ltF {j : Nat} (h : j ≤ 0) : ((0 : Int32) < Int32.ofNat j) = False := nF_lt (a := 0) h (by omega)
theorem nlt_0 {j : Nat} (h : j < 0) : (Int32.ofNat j < (0 : Int32)) = True := nT_lt (b := 0) h (by omega)
theorem nlt_0F {j : Nat} (h : 0 ≤ j) (hj : j < 2147483648) : (Int32.ofNat j < (0 : Int32)) = False := nF_lt (b := 0) h hj
theorem neq_0 {j : Nat} (h : j = 0) : (Int32.ofNat j = (0 : Int32)) = True := nT_eq (b := 0) h
theorem neq_0F {j : Nat} (h : j ≠ 0) (hj : j < 2147483648) : (Int32.ofNat j = (0 : Int32)) = False := nF_eq (b := 0) h hj (by omega)
theorem n1_le {j : Nat} (h : 1 ≤ j) (hj : j < 2147483648) : ((1 : Int32) ≤ Int32.ofNat j) = True := nT_le (a := 1) h hj
theorem n1_leF {j : Nat} (h : j < 1) : ((1 : Int32) ≤ Int32.ofNat j) = False := nF_le (a := 1) h (by omega)
theorem nle_1 {j : Nat} (h : j ≤ 1) : (Int32.ofNat j ≤ (1 : Int32)) = True := nT_le (b := 1) h (by omega)
theorem nle_1F {j : Nat} (h : 1 < j) (hj : j < 2147483648) : (Int32.ofNat j ≤ (1 : Int32)) = False := nF_le (b := 1) h hj
theorem n1_lt {j : Nat} (h : 1 < j) (hj : j < 2147483648) : ((1 : Int32) < Int32.ofNat j) = True := nT_lt (a := 1) h hj
theorem n1_ltF {j : Nat} (h : j ≤ 1) : ((1 : Int32) < Int32.ofNat j) = False := nF_lt (a := 1) h (by omega)
theorem nlt_1 {j : Nat} (h : j < 1) : (Int32.ofNat j < (1 : Int32)) = True := nT_lt (b := 1) h (by omega)
theorem nlt_1F {j : Nat} (h : 1 ≤ j) (hj : j < 2147483648) : (Int32.ofNat j < (1 : Int32)) = False := nF_lt (b := 1) h hj
theorem neq_1 {j : Nat} (h : j = 1) : (Int32.ofNat j = (1 : Int32)) = True := nT_eq (b := 1) h
theorem neq_1F {j : Nat} (h : j ≠ 1) (hj : j < 2147483648) : (Int32.ofNat j = (1 : Int32)) = False := nF_eq (b := 1) h hj (by omega)
theorem n2_le {j : Nat} (h : 2 ≤ j) (hj : j < 2147483648) : ((2 : Int32) ≤ Int32.ofNat j) = True := nT_le (a := 2) h hj
theorem n2_leF {j : Nat} (h : j < 2) : ((2 : Int32) ≤ Int32.ofNat j) = False := nF_le (a := 2) h (by omega)
theorem nle_2 {j : Nat} (h : j ≤ 2) : (Int32.ofNat j ≤ (2 : Int32)) = True := nT_le (b := 2) h (by omega)
theorem nle_2F {j : Nat} (h : 2 < j) (hj : j < 2147483648) : (Int32.ofNat j ≤ (2 : Int32)) = False := nF_le (b := 2) h hj
theorem n2_lt {j : Nat} (h : 2 < j) (hj : j < 2147483648) : ((2 : Int32) < Int32.ofNat j) = True := nT_lt (a := 2) h hj
theorem n2_ltF {j : Nat} (h : j ≤ 2) : ((2 : Int32) < Int32.ofNat j) = False := nF_lt (a := 2) h (by omega)
theorem nlt_2 {j : Nat} (h : j < 2) : (Int32.ofNat j < (2 : Int32)) = True := nT_lt (b := 2) h (by omega)
theorem nlt_2F {j : Nat} (h : 2 ≤ j) (hj : j < 2147483648) : (Int32.ofNat j < (2 : Int32)) = False := nF_lt (b := 2) h hj
theorem neq_2 {j : Nat} (h : j = 2) : (Int32.ofNat j = (2 : Int32)) = True := nT_eq (b := 2) h
theorem neq_2F {j : Nat} (h : j ≠ 2) (hj : j < 2147483648) : (Int32.ofNat j = (2 : Int32)) = False := nF_eq (b := 2) h hj (by omega)
theorem n3_le {j : Nat} (h : 3 ≤ j) (hj : j < 2147483648) : ((3 : Int32) ≤ Int32.ofNat j) = True := nT_le (a := 3) h hj
theorem n3_leF {j : Nat} (h : j < 3) : ((3 : Int32) ≤ Int32.ofNat j) = False := nF_le (a := 3) h (by omega)
theorem nle_3 {j : Nat} (h : j ≤ 3) : (Int32.ofNat j ≤ (3 : Int32)) = True := nT_le (b := 3) h (by omega)
theorem nle_3F {j : Nat} (h : 3 < j) (hj : j < 2147483648) : (Int32.ofNat j ≤ (3 : Int32)) = False := nF_le (b := 3) h hj
theorem n3_lt {j : Nat} (h : 3 < j) (hj : j < 2147483648) : ((3 : Int32) < Int32.ofNat j) = True := nT_lt (a := 3) h hj
theorem n3_ltF {j : Nat} (h : j ≤ 3) : ((3 : Int32) < Int32.ofNat j) = False := nF_lt (a := 3) h (by omega)
theorem nlt_3 {j : Nat} (h : j < 3) : (Int32.ofNat j < (3 : Int32)) = True := nT_lt (b := 3) h (by omega)
theorem nlt_3F {j : Nat} (h : 3 ≤ j) (hj : j < 2147483648) : (Int32.ofNat j < (3 : Int32)) = False := nF_lt (b := 3) h hj
theorem neq_3 {j : Nat} (h : j = 3) : (Int32.ofNat j = (3 : Int32)) = True := nT_eq (b := 3) h
theorem neq_3F {j : Nat} (h : j ≠ 3) (hj : j < 2147483648) : (Int32.ofNat j = (3 : Int32)) = False := nF_eq (b := 3) h hj (by omega)
theorem n4_le {j : Nat} (h : 4 ≤ j) (hj : j < 2147483648) : ((4 : Int32) ≤ Int32.ofNat j) = True := nT_le (a := 4) h hj
theorem n4_leF {j : Nat} (h : j < 4) : ((4 : Int32) ≤ Int32.ofNat j) = False := nF_le (a := 4) h (by omega)
theorem nle_4 {j : Nat} (h : j ≤ 4) : (Int32.ofNat j ≤ (4 : Int32)) = True := nT_le (b := 4) h (by omega)
theorem nle_4F {j : Nat} (h : 4 < j) (hj : j < 2147483648) : (Int32.ofNat j ≤ (4 : Int32)) = False := nF_le (b := 4) h hj
theorem n4_lt {j : Nat} (h : 4 < j) (hj : j < 2147483648) : ((4 : Int32) < Int32.ofNat j) = True := nT_lt (a := 4) h hj
theorem n4_ltF {j : Nat} (h : j ≤ 4) : ((4 : Int32) < Int32.ofNat j) = False := nF_lt (a := 4) h (by omega)
theorem nlt_4 {j : Nat} (h : j < 4) : (Int32.ofNat j < (4 : Int32)) = True := nT_lt (b := 4) h (by omega)
theorem nlt_4F {j : Nat} (h : 4 ≤ j) (hj : j < 2147483648) : (Int32.ofNat j < (4 : Int32)) = False := nF_lt (b := 4) h hj
theorem neq_4 {j : Nat} (h : j = 4) : (Int32.ofNat j = (4 : Int32)) = True := nT_eq (b := 4) h
theorem neq_4F {j : Nat} (h : j ≠ 4) (hj : j < 2147483648) : (Int32.ofNat j = (4 : Int32)) = False := nF_eq (b := 4) h hj (by omega)
theorem n5_le {j : Nat} (h : 5 ≤ j) (hj : j < 2147483648) : ((5 : Int32) ≤ Int32.ofNat j) = True := nT_le (a := 5) h hj
theorem n5_leF {j : Nat} (h : j < 5) : ((5 : Int32) ≤ Int32.ofNat j) = False := nF_le (a := 5) h (by omega)
theorem nle_5 {j : Nat} (h : j ≤ 5) : (Int32.ofNat j ≤ (5 : Int32)) = True := nT_le (b := 5) h (by omega)
theorem nle_5F {j : Nat} (h : 5 < j) (hj : j < 2147483648) : (Int32.ofNat j ≤ (5 : Int32)) = False := nF_le (b := 5) h hj
theorem n5_lt {j : Nat} (h : 5 < j) (hj : j < 2147483648) : ((5 : Int32) < Int32.ofNat j) = True := nT_lt (a := 5) h hj
theorem n5_ltF {j : Nat} (h : j ≤ 5) : ((5 : Int32) < Int32.ofNat j) = False := nF_lt (a := 5) h (by omega)
theorem nlt_5 {j : Nat} (h : j < 5) : (Int32.ofNat j < (5 : Int32)) = True := nT_lt (b := 5) h (by omega)
theorem nlt_5F {j : Nat} (h : 5 ≤ j) (hj : j < 2147483648) : (Int32.ofNat j < (5 : Int32)) = False := nF_lt (b := 5) h hj
theorem neq_5 {j : Nat} (h : j = 5) : (Int32.ofNat j = (5 : Int32)) = True := nT_eq (b := 5) h
theorem neq_5F {j : Nat} (h : j ≠ 5) (hj : j < 2147483648) : (Int32.ofNat j = (5 : Int32)) = False := nF_eq (b := 5) h hj (by omega)
theorem n6_le {j : Nat} (h : 6 ≤ j) (hj : j < 2147483648) : ((6 : Int32) ≤ Int32.ofNat j) = True := nT_le (a := 6) h hj
theorem n6_leF {j : Nat} (h : j < 6) : ((6 : Int32) ≤ Int32.ofNat j) = False := nF_le (a := 6) h (by omega)
theorem nle_6 {j : Nat} (h : j ≤ 6) : (Int32.ofNat j ≤ (6 : Int32)) = True := nT_le (b := 6) h (by omega)
theorem nle_6F {j : Nat} (h : 6 < j) (hj : j < 2147483648) : (Int32.ofNat j ≤ (6 : Int32)) = False := nF_le (b := 6) h hj
theorem n6_lt {j : Nat} (h : 6 < j) (hj : j < 2147483648) : ((6 : Int32) < Int32.ofNat j) = True := nT_lt (a := 6) h hj
theorem n6_ltF {j : Nat} (h : j ≤ 6) : ((6 : Int32) < Int32.ofNat j) = False := nF_lt (a := 6) h (by omega)
theorem nlt_6 {j : Nat} (h : j < 6) : (Int32.ofNat j < (6 : Int32)) = True := nT_lt (b := 6) h (by omega)
theorem nlt_6F {j : Nat} (h : 6 ≤ j) (hj : j < 2147483648) : (Int32.ofNat j < (6 : Int32)) = False := nF_lt (b := 6) h hj
theorem neq_6 {j : Nat} (h : j = 6) : (Int32.ofNat j = (6 : Int32)) = True := nT_eq (b := 6) h
theorem neq_6F {j : Nat} (h : j ≠ 6) (hj : j < 2147483648) : (Int32.ofNat j = (6 : Int32)) = False := nF_eq (b := 6) h hj (by omega)
theorem n7_le {j : Nat} (h : 7 ≤ j) (hj : j < 2147483648) : ((7 : Int32) ≤ Int32.ofNat j) = True := nT_le (a := 7) h hj
theorem n7_leF {j : Nat} (h : j < 7) : ((7 : Int32) ≤ Int32.ofNat j) = False := nF_le (a := 7) h (by omega)
theorem nle_7 {j : Nat} (h : j ≤ 7) : (Int32.ofNat j ≤ (7 : Int32)) = True := nT_le (b := 7) h (by omega)
theorem nle_7F {j : Nat} (h : 7 < j) (hj : j < 2147483648) : (Int32.ofNat j ≤ (7 : Int32)) = False := nF_le (b := 7) h hj
theorem n7_lt {j : Nat} (h : 7 < j) (hj : j < 2147483648) : ((7 : Int32) < Int32.ofNat j) = True := nT_lt (a := 7) h hj
theorem n7_ltF {j : Nat} (h : j ≤ 7) : ((7 : Int32) < Int32.ofNat j) = False := nF_lt (a := 7) h (by omega)
theorem nlt_7 {j : Nat} (h : j < 7) : (Int32.ofNat j < (7 : Int32)) = True := nT_lt (b := 7) h (by omega)
theorem nlt_7F {j : Nat} (h : 7 ≤ j) (hj : j < 2147483648) : (Int32.ofNat j < (7 : Int32)) = False := nF_lt (b := 7) h hj
theorem neq_7 {j : Nat} (h : j = 7) : (Int32.ofNat j = (7 : Int32)) = True := nT_eq (b := 7) h
theorem neq_7F {j : Nat} (h : j ≠ 7) (hj : j < 2147483648) : (Int32.ofNat j = (7 : Int32)) = False := nF_eq (b := 7) h hj (by omega)
theorem n8_le {j : Nat} (h : 8 ≤ j) (hj : j < 2147483648) : ((8 : Int32) ≤ Int32.ofNat j) = True := nT_le (a := 8) h hj
theorem n8_leF {j : Nat} (h : j < 8) : ((8 : Int32) ≤ Int32.ofNat j) = False := nF_le (a := 8) h (by omega)
theorem nle_8 {j : Nat} (h : j ≤ 8) : (Int32.ofNat j ≤ (8 : Int32)) = True := nT_le (b := 8) h (by omega)
theorem nle_8F {j : Nat} (h : 8 < j) (hj : j < 2147483648) : (Int32.ofNat j ≤ (8 : Int32)) = False := nF_le (b := 8) h hj
theorem n8_lt {j : Nat} (h : 8 < j) (hj : j < 2147483648) : ((8 : Int32) < Int32.ofNat j) = True := nT_lt (a := 8) h hj
theorem n8_ltF {j : Nat} (h : j ≤ 8) : ((8 : Int32) < Int32.ofNat j) = False := nF_lt (a := 8) h (by omega)
theorem nlt_8 {j : Nat} (h : j < 8) : (Int32.ofNat j < (8 : Int32)) = True := nT_lt (b := 8) h (by omega)
theorem nlt_8F {j : Nat} (h : 8 ≤ j) (hj : j < 2147483648) : (Int32.ofNat j < (8 : Int32)) = False := nF_lt (b := 8) h hj
theorem neq_8 {j : Nat} (h : j = 8) : (Int32.ofNat j = (8 : Int32)) = True := nT_eq (b := 8) h
theorem neq_8F {j : Nat} (h : j ≠ 8) (hj : j < 2147483648) : (Int32.ofNat j = (8 : Int32)) = False := nF_eq (b := 8) h hj (by omega)
theorem n9_le {j : Nat} (h : 9 ≤ j) (hj : j < 2147483648) : ((9 : Int32) ≤ Int32.ofNat j) = True := nT_le (a := 9) h hj
theorem n9_leF {j : Nat} (h : j < 9) : ((9 : Int32) ≤ Int32.ofNat j) = False := nF_le (a := 9) h (by omega)
theorem nle_9 {j : Nat} (h : j ≤ 9) : (Int32.ofNat j ≤ (9 : Int32)) = True := nT_le (b := 9) h (by omega)
theorem nle_9F {j : Nat} (h : 9 < j) (hj : j < 2147483648) : (Int32.ofNat j ≤ (9 : Int32)) = False := nF_le (b := 9) h hj
theorem n9_lt {j : Nat} (h : 9 < j) (hj : j < 2147483648) : ((9 : Int32) < Int32.ofNat j) = True := nT_lt (a := 9) h hj
theorem n9_ltF {j : Nat} (h : j ≤ 9) : ((9 : Int32) < Int32.ofNat j) = False := nF_lt (a := 9) h (by omega)
theorem nlt_9 {j : Nat} (h : j < 9) : (Int32.ofNat j < (9 : Int32)) = True := nT_lt (b := 9) h (by omega)
theorem nlt_9F {j : Nat} (h : 9 ≤ j) (hj : j < 2147483648) : (Int32.ofNat j < (9 : Int32)) = False := nF_lt (b := 9) h hj
theorem neq_9 {j : Nat} (h : j = 9) : (Int32.ofNat j = (9 : Int32)) = True := nT_eq (b := 9) h
theorem neq_9F {j : Nat} (h : j ≠ 9) (hj : j < 2147483648) : (Int32.ofNat j = (9 : Int32)) = False := nF_eq (b := 9) h hj (by omega)
theorem n10_le {j : Nat} (h : 10 ≤ j) (hj : j < 2147483648) : ((10 : Int32) ≤ Int32.ofNat j) = True := nT_le (a := 10) h hj
theorem n10_leF {j : Nat} (h : j < 10) : ((10 : Int32) ≤ Int32.ofNat j) = False := nF_le (a := 10) h (by omega)
theorem nle_10 {j : Nat} (h : j ≤ 10) : (Int32.ofNat j ≤ (10 : Int32)) = True := nT_le (b := 10) h (by omega)
theorem nle_10F {j : Nat} (h : 10 < j) (hj : j < 2147483648) : (Int32.ofNat j ≤ (10 : Int32)) = False := nF_le (b := 10) h hj
theorem n10_lt {j : Nat} (h : 10 < j) (hj : j < 2147483648) : ((10 : Int32) < Int32.ofNat j) = True := nT_lt (a := 10) h hj
theorem n10_ltF {j : Nat} (h : j ≤ 10) : ((10 : Int32) < Int32.ofNat j) = False := nF_lt (a := 10) h (by omega)
theorem nlt_10 {j : Nat} (h : j < 10) : (Int32.ofNat j < (10 : Int32)) = True := nT_lt (b := 10) h (by omega)
theorem nlt_10F {j : Nat} (h : 10 ≤ j) (hj : j < 2147483648) : (Int32.ofNat j < (10 : Int32)) = False := nF_lt (b := 10) h hj
theorem neq_10 {j : Nat} (h : j = 10) : (Int32.ofNat j = (10 : Int32)) = True := nT_eq (b := 10) h
theorem neq_10F {j : Nat} (h : j ≠ 10) (hj : j < 2147483648) : (Int32.ofNat j = (10 : Int32)) = False := nF_eq (b := 10) h hj (by omega)
theorem n11_le {j : Nat} (h : 11 ≤ j) (hj : j < 2147483648) : ((11 : Int32) ≤ Int32.ofNat j) = True := nT_le (a := 11) h hj
theorem n11_leF {j : Nat} (h : j < 11) : ((11 : Int32) ≤ Int32.ofNat j) = False := nF_le (a := 11) h (by omega)
theorem nle_11 {j : Nat} (h : j ≤ 11) : (Int32.ofNat j ≤ (11 : Int32)) = True := nT_le (b := 11) h (by omega)
theorem nle_11F {j : Nat} (h : 11 < j) (hj : j < 2147483648) : (Int32.ofNat j ≤ (11 : Int32)) = False := nF_le (b := 11) h hj
theorem n11_lt {j : Nat} (h : 11 < j) (hj : j < 2147483648) : ((11 : Int32) < Int32.ofNat j) = True := nT_lt (a := 11) h hj
theorem n11_ltF {j : Nat} (h : j ≤ 11) : ((11 : Int32) < Int32.ofNat j) = False := nF_lt (a := 11) h (by omega)
theorem nlt_11 {j : Nat} (h : j < 11) : (Int32.ofNat j < (11 : Int32)) = True := nT_lt (b := 11) h (by omega)
theorem nlt_11F {j : Nat} (h : 11 ≤ j) (hj : j < 2147483648) : (Int32.ofNat j < (11 : Int32)) = False := nF_lt (b := 11) h hj
theorem neq_11 {j : Nat} (h : j = 11) : (Int32.ofNat j = (11 : Int32)) = True := nT_eq (b := 11) h
theorem neq_11F {j : Nat} (h : j ≠ 11) (hj : j < 2147483648) : (Int32.ofNat j = (11 : Int32)) = False := nF_eq (b := 11) h hj (by omega)
theorem n12_le {j : Nat} (h : 12 ≤ j) (hj : j < 2147483648) : ((12 : Int32) ≤ Int32.ofNat j) = True := nT_le (a := 12) h hj
theorem n12_leF {j : Nat} (h : j < 12) : ((12 : Int32) ≤ Int32.ofNat j) = False := nF_le (a := 12) h (by omega)
theorem nle_12 {j : Nat} (h : j ≤ 12) : (Int32.ofNat j ≤ (12 : Int32)) = True := nT_le (b := 12) h (by omega)
theorem nle_12F {j : Nat} (h : 12 < j) (hj : j < 2147483648) : (Int32.ofNat j ≤ (12 : Int32)) = False := nF_le (b := 12) h hj
theorem n12_lt {j : Nat} (h : 12 < j) (hj : j < 2147483648) : ((12 : Int32) < Int32.ofNat j) = True := nT_lt (a := 12) h hj
theorem n12_ltF {j : Nat} (h : j ≤ 12) : ((12 : Int32) < Int32.ofNat j) = False := nF_lt (a := 12) h (by omega)
theorem nlt_12 {j : Nat} (h : j < 12) : (Int32.ofNat j < (12 : Int32)) = True := nT_lt (b := 12) h (by omega)
theorem nlt_12F {j : Nat} (h : 12 ≤ j) (hj : j < 2147483648) : (Int32.ofNat j < (12 : Int32)) = False := nF_lt (b := 12) h hj
theorem neq_12 {j : Nat} (h : j = 12) : (Int32.ofNat j = (12 : Int32)) = True := nT_eq (b := 12) h
theorem neq_12F {j : Nat} (h : j ≠ 12) (hj : j < 2147483648) : (Int32.ofNat j = (12 : Int32)) = False := nF_eq (b := 12) h hj (by omega)
theorem n19_le {j : Nat} (h : 19 ≤ j) (hj : j < 2147483648) : ((19 : Int32) ≤ Int32.ofNat j) = True := nT_le (a := 19) h hj
theorem n19_leF {j : Nat} (h : j < 19) : ((19 : Int32) ≤ Int32.ofNat j) = False := nF_le (a := 19) h (by omega)
theorem nle_19 {j : Nat} (h : j ≤ 19) : (Int32.ofNat j ≤ (19 : Int32)) = True := nT_le (b := 19) h (by omega)
theorem nle_19F {j : Nat} (h : 19 < j) (hj : j < 2147483648) : (Int32.ofNat j ≤ (19 : Int32)) = False := nF_le (b := 19) h hj
theorem n19_lt {j : Nat} (h : 19 < j) (hj : j < 2147483648) : ((19 : Int32) < Int32.ofNat j) = True := nT_lt (a := 19) h hj
theorem n19_ltF {j : Nat} (h : j ≤ 19) : ((19 : Int32) < Int32.ofNat j) = False := nF_lt (a := 19) h (by omega)
theorem nlt_19 {j : Nat} (h : j < 19) : (Int32.ofNat j < (19 : Int32)) = True := nT_lt (b := 19) h (by omega)
theorem nlt_19F {j : Nat} (h : 19 ≤ j) (hj : j < 2147483648) : (Int32.ofNat j < (19 : Int32)) = False := nF_lt (b := 19) h hj
theorem neq_19 {j : Nat} (h : j = 19) : (Int32.ofNat j = (19 : Int32)) = True := nT_eq (b := 19) h
theorem neq_19F {j : Nat} (h : j ≠ 19) (hj : j < 2147483648) : (Int32.ofNat j = (19 : Int32)) = False := nF_eq (b := 19) h hj (by omega)
theorem n20_le {j : Nat} (h : 20 ≤ j) (hj : j < 2147483648) : ((20 : Int32) ≤ Int32.ofNat j) = True := nT_le (a := 20) h hj
theorem n20_leF {j : Nat} (h : j < 20) : ((20 : Int32) ≤ Int32.ofNat j) = False := nF_le (a := 20) h (by omega)
theorem nle_20 {j : Nat} (h : j ≤ 20) : (Int32.ofNat j ≤ (20 : Int32)) = True := nT_le (b := 20) h (by omega)
theorem nle_20F {j : Nat} (h : 20 < j) (hj : j < 2147483648) : (Int32.ofNat j ≤ (20 : Int32)) = False := nF_le (b := 20) h hj
theorem n20_lt {j : Nat} (h : 20 < j) (hj : j < 2147483648) : ((20 : Int32) < Int32.ofNat j) = True := nT_lt (a := 20) h hj
theorem n20_ltF {j : Nat} (h : j ≤ 20) : ((20 : Int32) < Int32.ofNat j) = False := nF_lt (a := 20) h (by omega)
theorem nlt_20 {j : Nat} (h : j < 20) : (Int32.ofNat j < (20 : Int32)) = True := nT_lt (b := 20) h (by omega)
theorem nlt_20F {j : Nat} (h : 20 ≤ j) (hj : j < 2147483648) : (Int32.ofNat j < (20 : Int32)) = False := nF_lt (b := 20) h hj
theorem neq_20 {j : Nat} (h : j = 20) : (Int32.ofNat j = (20 : Int32)) = True := nT_eq (b := 20) h
theorem neq_20F {j : Nat} (h : j ≠ 20) (hj : j < 2147483648) : (Int32.ofNat j = (20 : Int32)) = False := nF_eq (b := 20) h hj (by omega)
theorem n30_le {j : Nat} (h : 30 ≤ j) (hj : j < 2147483648) : ((30 : Int32) ≤ Int32.ofNat j) = True := nT_le (a := 30) h hj
theorem n30_leF {j : Nat} (h : j < 30) : ((30 : Int32) ≤ Int32.ofNat j) = False := nF_le (a := 30) h (by omega)
theorem nle_30 {j : Nat} (h : j ≤ 30) : (Int32.ofNat j ≤ (30 : Int32)) = True := nT_le (b := 30) h (by omega)
theorem nle_30F {j : Nat} (h : 30 < j) (hj : j < 2147483648) : (Int32.ofNat j ≤ (30 : Int32)) = False := nF_le (b := 30) h hj
theorem n30_lt {j : Nat} (h : 30 < j) (hj : j < 2147483648) : ((30 : Int32) < Int32.ofNat j) = True := nT_lt (a := 30) h hj
theorem n30_ltF {j : Nat} (h : j ≤ 30) : ((30 : Int32) < Int32.ofNat j) = False := nF_lt (a := 30) h (by omega)
theorem nlt_30 {j : Nat} (h : j < 30) : (Int32.ofNat j < (30 : Int32)) = True := nT_lt (b := 30) h (by omega)
theorem nlt_30F {j : Nat} (h : 30 ≤ j) (hj : j < 2147483648) : (Int32.ofNat j < (30 : Int32)) = False := nF_lt (b := 30) h hj
theorem neq_30 {j : Nat} (h : j = 30) : (Int32.ofNat j = (30 : Int32)) = True := nT_eq (b := 30) h
theorem neq_30F {j : Nat} (h : j ≠ 30) (hj : j < 2147483648) : (Int32.ofNat j = (30 : Int32)) = False := nF_eq (b := 30) h hj (by omega)
theorem n36_le {j : Nat} (h : 36 ≤ j) (hj : j < 2147483648) : ((36 : Int32) ≤ Int32.ofNat j) = True := nT_le (a := 36) h hj
theorem n36_leF {j : Nat} (h : j < 36) : ((36 : Int32) ≤ Int32.ofNat j) = False := nF_le (a := 36) h (by omega)
theorem nle_36 {j : Nat} (h : j ≤ 36) : (Int32.ofNat j ≤ (36 : Int32)) = True := nT_le (b := 36) h (by omega)
theorem nle_36F {j : Nat} (h : 36 < j) (hj : j < 2147483648) : (Int32.ofNat j ≤ (36 : Int32)) = False := nF_le (b := 36) h hj
theorem n36_lt {j : Nat} (h : 36 < j) (hj : j < 2147483648) : ((36 : Int32) < Int32.ofNat j) = True := nT_lt (a := 36) h hj
theorem n36_ltF {j : Nat} (h : j ≤ 36) : ((36 : Int32) < Int32.ofNat j) = False := nF_lt (a := 36) h (by omega)
theorem nlt_36 {j : Nat} (h : j < 36) : (Int32.ofNat j < (36 : Int32)) = True := nT_lt (b := 36) h (by omega)
theorem nlt_36F {j : Nat} (h : 36 ≤ j) (hj : j < 2147483648) : (Int32.ofNat j < (36 : Int32)) = False := nF_lt (b := 36) h hj
theorem neq_36 {j : Nat} (h : j = 36) : (Int32.ofNat j = (36 : Int32)) = True := nT_eq (b := 36) h
theorem neq_36F {j : Nat} (h : j ≠ 36) (hj : j < 2147483648) : (Int32.ofNat j = (36 : Int32)) = False := nF_eq (b := 36) h hj (by omega)
theorem n48_le {j : Nat} (h : 48 ≤ j) (hj : j < 2147483648) : ((48 : Int32) ≤ Int32.ofNat j) = True := nT_le (a := 48) h hj
theorem n48_leF {j : Nat} (h : j < 48) : ((48 : Int32) ≤ Int32.ofNat j) = False := nF_le (a := 48) h (by omega)
theorem nle_48 {j : Nat} (h : j ≤ 48) : (Int32.ofNat j ≤ (48 : Int32)) = True := nT_le (b := 48) h (by omega)
theorem nle_48F {j : Nat} (h : 48 < j) (hj : j < 2147483648) : (Int32.ofNat j ≤ (48 : Int32)) = False := nF_le (b := 48) h hj
theorem n48_lt {j : Nat} (h : 48 < j) (hj : j < 2147483648) : ((48 : Int32) < Int32.ofNat j) = True := nT_lt (a := 48) h hj
theorem n48_ltF {j : Nat} (h : j ≤ 48) : ((48 : Int32) < Int32.ofNat j) = False := nF_lt (a := 48) h (by omega)
theorem nlt_48 {j : Nat} (h : j < 48) : (Int32.ofNat j < (48 : Int32)) = True := nT_lt (b := 48) h (by omega)
theorem nlt_48F {j : Nat} (h : 48 ≤ j) (hj : j < 2147483648) : (Int32.ofNat j < (48 : Int32)) = False := nF_lt (b := 48) h hj
theorem neq_48 {j : Nat} (h : j = 48) : (Int32.ofNat j = (48 : Int32)) = True := nT_eq (b := 48) h
theorem neq_48F {j : Nat} (h : j ≠ 48) (hj : j < 2147483648) : (Int32.ofNat j = (48 : Int32)) = False := nF_eq (b := 48) h hj (by omega)
theorem n60_le {j : Nat} (h : 60 ≤ j) (hj : j < 2147483648) : ((60 : Int32) ≤ Int32.ofNat j) = True := nT_le (a := 60) h hj
theorem n60_leF {j : Nat} (h : j < 60) : ((60 : Int32) ≤ Int32.ofNat j) = False := nF_le (a := 60) h (by omega)
theorem nle_60 {j : Nat} (h : j ≤ 60) : (Int32.ofNat j ≤ (60 : Int32)) = True := nT_le (b := 60) h (by omega)
theorem nle_60F {j : Nat} (h : 60 < j) (hj : j < 2147483648) : (Int32.ofNat j ≤ (60 : Int32)) = False := nF_le (b := 60) h hj
theorem n60_lt {j : Nat} (h : 60 < j) (hj : j < 2147483648) : ((60 : Int32) < Int32.ofNat j) = True := nT_lt (a := 60) h hj
theorem n60_ltF {j : Nat} (h : j ≤ 60) : ((60 : Int32) < Int32.ofNat j) = False := nF_lt (a := 60) h (by omega)
theorem nlt_60 {j : Nat} (h : j < 60) : (Int32.ofNat j < (60 : Int32)) = True := nT_lt (b := 60) h (by omega)
theorem nlt_60F {j : Nat} (h : 60 ≤ j) (hj : j < 2147483648) : (Int32.ofNat j < (60 : Int32)) = False := nF_lt (b := 60) h hj
theorem neq_60 {j : Nat} (h : j = 60) : (Int32.ofNat j = (60 : Int32)) = True := nT_eq (b := 60) h
theorem neq_60F {j : Nat} (h : j ≠ 60) (hj : j < 2147483648) : (Int32.ofNat j = (60 : Int32)) = False := nF_eq (b := 60) h hj (by omega)
theorem n63_le {j : Nat} (h : 63 ≤ j) (hj : j < 2147483648) : ((63 : Int32) ≤ Int32.ofNat j) = True := nT_le (a := 63) h hj
theorem n63_leF {j : Nat} (h : j < 63) : ((63 : Int32) ≤ Int32.ofNat j) = False := nF_le (a := 63) h (by omega)
theorem nle_63 {j : Nat} (h : j ≤ 63) : (Int32.ofNat j ≤ (63 : Int32)) = True := nT_le (b := 63) h (by omega)
theorem nle_63F {j : Nat} (h : 63 < j) (hj : j < 2147483648) : (Int32.ofNat j ≤ (63 : Int32)) = False := nF_le (b := 63) h hj
theorem n63_lt {j : Nat} (h : 63 < j) (hj : j < 2147483648) : ((63 : Int32) < Int32.ofNat j) = True := nT_lt (a := 63) h hj
theorem n63_ltF {j : Nat} (h : j ≤ 63) : ((63 : Int32) < Int32.ofNat j) = False := nF_lt (a := 63) h (by omega)
theorem nlt_63 {j : Nat} (h : j < 63) : (Int32.ofNat j < (63 : Int32)) = True := nT_lt (b := 63) h (by omega)
theorem nlt_63F {j : Nat} (h : 63 ≤ j) (hj : j < 2147483648) : (Int32.ofNat j < (63 : Int32)) = False := nF_lt (b := 63) h hj
theorem neq_63 {j : Nat} (h : j = 63) : (Int32.ofNat j = (63 : Int32)) = True := nT_eq (b := 63) h
theorem neq_63F {j : Nat} (h : j ≠ 63) (hj : j < 2147483648) : (Int32.ofNat j = (63 : Int32)) = False := nF_eq (b := 63) h hj (by omega)
theorem n64_le {j : Nat} (h : 64 ≤ j) (hj : j < 2147483648) : ((64 : Int32) ≤ Int32.ofNat j) = True := nT_le (a := 64) h hj
theorem n64_leF {j : Nat} (h : j < 64) : ((64 : Int32) ≤ Int32.ofNat j) = False := nF_le (a := 64) h (by omega)
theorem nle_64 {j : Nat} (h : j ≤ 64) : (Int32.ofNat j ≤ (64 : Int32)) = True := nT_le (b := 64) h (by omega)
theorem nle_64F {j : Nat} (h : 64 < j) (hj : j < 2147483648) : (Int32.ofNat j ≤ (64 : Int32)) = False := nF_le (b := 64) h hj
theorem n64_lt {j : Nat} (h : 64 < j) (hj : j < 2147483648) : ((64 : Int32) < Int32.ofNat j) = True := nT_lt (a := 64) h hj
theorem n64_ltF {j : Nat} (h : j ≤ 64) : ((64 : Int32) < Int32.ofNat j) = False := nF_lt (a := 64) h (by omega)
theorem nlt_64 {j : Nat} (h : j < 64) : (Int32.ofNat j < (64 : Int32)) = True := nT_lt (b := 64) h (by omega)
theorem nlt_64F {j : Nat} (h : 64 ≤ j) (hj : j < 2147483648) : (Int32.ofNat j < (64 : Int32)) = False := nF_lt (b := 64) h hj
theorem neq_64 {j : Nat} (h : j = 64) : (Int32.ofNat j = (64 : Int32)) = True := nT_eq (b := 64) h
theorem neq_64F {j : Nat} (h : j ≠ 64) (hj : j < 2147483648) : (Int32.ofNat j = (64 : Int32)) = False := nF_eq (b := 64) h hj (by omega)
theorem n72_le {j : Nat} (h : 72 ≤ j) (hj : j < 2147483648) : ((72 : Int32) ≤ Int32.ofNat j) = True := nT_le (a := 72) h hj
theorem n72_leF {j : Nat} (h : j < 72) : ((72 : Int32) ≤ Int32.ofNat j) = False := nF_le (a := 72) h (by omega)
theorem nle_72 {j : Nat} (h : j ≤ 72) : (Int32.ofNat j ≤ (72 : Int32)) = True := nT_le (b := 72) h (by omega)
theorem nle_72F {j : Nat} (h : 72 < j) (hj : j < 2147483648) : (Int32.ofNat j ≤ (72 : Int32)) = False := nF_le (b := 72) h hj
theorem n72_lt {j : Nat} (h : 72 < j) (hj : j < 2147483648) : ((72 : Int32) < Int32.ofNat j) = True := nT_lt (a := 72) h hj
theorem n72_ltF {j : Nat} (h : j ≤ 72) : ((72 : Int32) < Int32.ofNat j) = False := nF_lt (a := 72) h (by omega)
theorem nlt_72 {j : Nat} (h : j < 72) : (Int32.ofNat j < (72 : Int32)) = True := nT_lt (b := 72) h (by omega)
theorem nlt_72F {j : Nat} (h : 72 ≤ j) (hj : j < 2147483648) : (Int32.ofNat j < (72 : Int32)) = False := nF_lt (b := 72) h hj
theorem neq_72 {j : Nat} (h : j = 72) : (Int32.ofNat j = (72 : Int32)) = True := nT_eq (b := 72) h
theorem neq_72F {j : Nat} (h : j ≠ 72) (hj : j < 2147483648) : (Int32.ofNat j = (72 : Int32)) = False := nF_eq (b := 72) h hj (by omega)
theorem n100_le {j : Nat} (h : 100 ≤ j) (hj : j < 2147483648) : ((100 : Int32) ≤ Int32.ofNat j) = True := nT_le (a := 100) h hj
theorem n100_leF {j : Nat} (h : j < 100) : ((100 : Int32) ≤ Int32.ofNat j) = False := nF_le (a := 100) h (by omega)
theorem nle_100 {j : Nat} (h : j ≤ 100) : (Int32.ofNat j ≤ (100 : Int32)) = True := nT_le (b := 100) h (by omega)
theorem nle_100F {j : Nat} (h : 100 < j) (hj : j < 2147483648) : (Int32.ofNat j ≤ (100 : Int32)) = False := nF_le (b := 100) h hj
theorem n100_lt {j : Nat} (h : 100 < j) (hj : j < 2147483648) : ((100 : Int32) < Int32.ofNat j) = True := nT_lt (a := 100) h hj
theorem n100_ltF {j : Nat} (h : j ≤ 100) : ((100 : Int32) < Int32.ofNat j) = False := nF_lt (a := 100) h (by omega)
theorem nlt_100 {j : Nat} (h : j < 100) : (Int32.ofNat j < (100 : Int32)) = True := nT_lt (b := 100) h (by omega)
theorem nlt_100F {j : Nat} (h : 100 ≤ j) (hj : j < 2147483648) : (Int32.ofNat j < (100 : Int32)) = False := nF_lt (b := 100) h hj
theorem neq_100 {j : Nat} (h : j = 100) : (Int32.ofNat j = (100 : Int32)) = True := nT_eq (b := 100) h
theorem neq_100F {j : Nat} (h : j ≠ 100) (hj : j < 2147483648) : (Int32.ofNat j = (100 : Int32)) = False := nF_eq (b := 100) h hj (by omega)
theorem n144_le {j : Nat} (h : 144 ≤ j) (hj : j < 2147483648) : ((144 : Int32) ≤ Int32.ofNat j) = True := nT_le (a := 144) h hj
theorem n144_leF {j : Nat} (h : j < 144) : ((144 : Int32) ≤ Int32.ofNat j) = False := nF_le (a := 144) h (by omega)
theorem nle_144 {j : Nat} (h : j ≤ 144) : (Int32.ofNat j ≤ (144 : Int32)) = True := nT_le (b := 144) h (by omega)
theorem nle_144F {j : Nat} (h : 144 < j) (hj : j < 2147483648) : (Int32.ofNat j ≤ (144 : Int32)) = False := nF_le (b := 144) h hj
theorem n144_lt {j : Nat} (h : 144 < j) (hj : j < 2147483648) : ((144 : Int32) < Int32.ofNat j) = True := nT_lt (a := 144) h hj
theorem n144_ltF {j : Nat} (h : j ≤ 144) : ((144 : Int32) < Int32.ofNat j) = False := nF_lt (a := 144) h (by omega)
theorem nlt_144 {j : Nat} (h : j < 144) : (Int32.ofNat j < (144 : Int32)) = True := nT_lt (b := 144) h (by omega)
theorem nlt_144F {j : Nat} (h : 144 ≤ j) (hj : j < 2147483648) : (Int32.ofNat j < (144 : Int32)) = False := nF_lt (b := 144) h hj
theorem neq_144 {j : Nat} (h : j = 144) : (Int32.ofNat j = (144 : Int32)) = True := nT_eq (b := 144) h
theorem neq_144F {j : Nat} (h : j ≠ 144) (hj : j < 2147483648) : (Int32.ofNat j = (144 : Int32)) = False := nF_eq (b := 144) h hj (by omega)
theorem n255_le {j : Nat} (h : 255 ≤ j) (hj : j < 2147483648) : ((255 : Int32) ≤ Int32.ofNat j) = True := nT_le (a := 255) h hj
theorem n255_leF {j : Nat} (h : j < 255) : ((255 : Int32) ≤ Int32.ofNat j) = False := nF_le (a := 255) h (by omega)
theorem nle_255 {j : Nat} (h : j ≤ 255) : (Int32.ofNat j ≤ (255 : Int32)) = True := nT_le (b := 255) h (by omega)
theorem nle_255F {j : Nat} (h : 255 < j) (hj : j < 2147483648) : (Int32.ofNat j ≤ (255 : Int32)) = False := nF_le (b := 255) h hj
theorem n255_lt {j : Nat} (h : 255 < j) (hj : j < 2147483648) : ((255 : Int32) < Int32.ofNat j) = True := nT_lt (a := 255) h hj
theorem n255_ltF {j : Nat} (h : j ≤ 255) : ((255 : Int32) < Int32.ofNat j) = False := nF_lt (a := 255) h (by omega)
theorem nlt_255 {j : Nat} (h : j < 255) : (Int32.ofNat j < (255 : Int32)) = True := nT_lt (b := 255) h (by omega)
theorem nlt_255F {j : Nat} (h : 255 ≤ j) (hj : j < 2147483648) : (Int32.ofNat j < (255 : Int32)) = False := nF_lt (b := 255) h hj
theorem neq_255 {j : Nat} (h : j = 255) : (Int32.ofNat j = (255 : Int32)) = True := nT_eq (b := 255) h
theorem neq_255F {j : Nat} (h : j ≠ 255) (hj : j < 2147483648) : (Int32.ofNat j = (255 : Int32)) = False := nF_eq (b := 255) h hj (by omega)
theorem n256_le {j : Nat} (h : 256 ≤ j) (hj : j < 2147483648) : ((256 : Int32) ≤ Int32.ofNat j) = True := nT_le (a := 256) h hj
theorem n256_leF {j : Nat} (h : j < 256) : ((256 : Int32) ≤ Int32.ofNat j) = False := nF_le (a := 256) h (by omega)
theorem nle_256 {j : Nat} (h : j ≤ 256) : (Int32.ofNat j ≤ (256 : Int32)) = True := nT_le (b := 256) h (by omega)
theorem nle_256F {j : Nat} (h : 256 < j) (hj : j < 2147483648) : (Int32.ofNat j ≤ (256 : Int32)) = False := nF_le (b := 256) h hj
theorem n256_lt {j : Nat} (h : 256 < j) (hj : j < 2147483648) : ((256 : Int32) < Int32.ofNat j) = True := nT_lt (a := 256) h hj
theorem n256_ltF {j : Nat} (h : j ≤ 256) : ((256 : Int32) < Int32.ofNat j) = False := nF_lt (a := 256) h (by omega)
theorem nlt_256 {j : Nat} (h : j < 256) : (Int32.ofNat j < (256 : Int32)) = True := nT_lt (b := 256) h (by omega)
theorem nlt_256F {j : Nat} (h : 256 ≤ j) (hj : j < 2147483648) : (Int32.ofNat j < (256 : Int32)) = False := nF_lt (b := 256) h hj
theorem neq_256 {j : Nat} (h : j = 256) : (Int32.ofNat j = (256 : Int32)) = True := nT_eq (b := 256) h
theorem neq_256F {j : Nat} (h : j ≠ 256) (hj : j < 2147483648) : (Int32.ofNat j = (256 : Int32)) = False := nF_eq (b := 256) h hj (by omega)
theorem n999_le {j : Nat} (h : 999 ≤ j) (hj : j < 2147483648) : ((999 : Int32) ≤ Int32.ofNat j) = True := nT_le (a := 999) h hj
theorem n999_leF {j : Nat} (h : j < 999) : ((999 : Int32) ≤ Int32.ofNat j) = False := nF_le (a := 999) h (by omega)
theorem nle_999 {j : Nat} (h : j ≤ 999) : (Int32.ofNat j ≤ (999 : Int32)) = True := nT_le (b := 999) h (by omega)
theorem nle_999F {j : Nat} (h : 999 < j) (hj : j < 2147483648) : (Int32.ofNat j ≤ (999 : Int32)) = False := nF_le (b := 999) h hj
theorem n999_lt {j : Nat} (h : 999 < j) (hj : j < 2147483648) : ((999 : Int32) < Int32.ofNat j) = True := nT_lt (a := 999) h hj
theorem n999_ltF {j : Nat} (h : j ≤ 999) : ((999 : Int32) < Int32.ofNat j) = False := nF_lt (a := 999) h (by omega)
theorem nlt_999 {j : Nat} (h : j < 999) : (Int32.ofNat j < (999 : Int32)) = True := nT_lt (b := 999) h (by omega)
theorem nlt_999F {j : Nat} (h : 999 ≤ j) (hj : j < 2147483648) : (Int32.ofNat j < (999 : Int32)) = False := nF_lt (b := 999) h hj
theorem neq_999 {j : Nat} (h : j = 999) : (Int32.ofNat j = (999 : Int32)) = True := nT_eq (b := 999) h
theorem neq_999F {j : Nat} (h : j ≠ 999) (hj : j < 2147483648) : (Int32.ofNat j = (999 : Int32)) = False := nF_eq (b := 999) h hj (by omega)
theorem n1000_le {j : Nat} (h : 1000 ≤ j) (hj : j < 2147483648) : ((1000 : Int32) ≤ Int32.ofNat j) = True := nT_le (a := 1000) h hj
theorem n1000_leF {j : Nat} (h : j < 1000) : ((1000 : Int32) ≤ Int32.ofNat j) = False := nF_le (a := 1000) h (by omega)
theorem nle_1000 {j : Nat} (h : j ≤ 1000) : (Int32.ofNat j ≤ (1000 : Int32)) = True := nT_le (b := 1000) h (by omega)
theorem nle_1000F {j : Nat} (h : 1000 < j) (hj : j < 2147483648) : (Int32.ofNat j ≤ (1000 : Int32)) = False := nF_le (b := 1000) h hj
theorem n1000_lt {j : Nat} (h : 1000 < j) (hj : j < 2147483648) : ((1000 : Int32) < Int32.ofNat j) = True := nT_lt (a := 1000) h hj
theorem n1000_ltF {j : Nat} (h : j ≤ 1000) : ((1000 : Int32) < Int32.ofNat j) = False := nF_lt (a := 1000) h (by omega)
theorem nlt_1000 {j : Nat} (h : j < 1000) : (Int32.ofNat j < (1000 : Int32)) = True := nT_lt (b := 1000) h (by omega)
theorem nlt_1000F {j : Nat} (h : 1000 ≤ j) (hj : j < 2147483648) : (Int32.ofNat j < (1000 : Int32)) = False := nF_lt (b := 1000) h hj
theorem neq_1000 {j : Nat} (h : j = 1000) : (Int32.ofNat j = (1000 : Int32)) = True := nT_eq (b := 1000) h
theorem neq_1000F {j : Nat} (h : j ≠ 1000) (hj : j < 2147483648) : (Int32.ofNat j = (1000 : Int32)) = False := nF_eq (b := 1000) h hj (by omega)
theorem n1728_le {j : Nat} (h : 1728 ≤ j) (hj : j < 2147483648) : ((1728 : Int32) ≤ Int32.ofNat j) = True := nT_le (a := 1728) h hj
theorem n1728_leF {j : Nat} (h : j < 1728) : ((1728 : Int32) ≤ Int32.ofNat j) = False := nF_le (a := 1728) h (by omega)
theorem nle_1728 {j : Nat} (h : j ≤ 1728) : (Int32.ofNat j ≤ (1728 : Int32)) = True := nT_le (b := 1728) h (by omega)
theorem nle_1728F {j : Nat} (h : 1728 < j) (hj : j < 2147483648) : (Int32.ofNat j ≤ (1728 : Int32)) = False := nF_le (b := 1728) h hj
theorem n1728_lt {j : Nat} (h : 1728 < j) (hj : j < 2147483648) : ((1728 : Int32) < Int32.ofNat j) = True := nT_lt (a := 1728) h hj
theorem n1728_ltF {j : Nat} (h : j ≤ 1728) : ((1728 : Int32) < Int32.ofNat j) = False := nF_lt (a := 1728) h (by omega)
theorem nlt_1728 {j : Nat} (h : j < 1728) : (Int32.ofNat j < (1728 : Int32)) = True := nT_lt (b := 1728) h (by omega)
theorem nlt_1728F {j : Nat} (h : 1728 ≤ j) (hj : j < 2147483648) : (Int32.ofNat j < (1728 : Int32)) = False := nF_lt (b := 1728) h hj
theorem neq_1728 {j : Nat} (h : j = 1728) : (Int32.ofNat j = (1728 : Int32)) = True := nT_eq (b := 1728) h
theorem neq_1728F {j : Nat} (h : j ≠ 1728) (hj : j < 2147483648) : (Int32.ofNat j = (1728 : Int32)) = False := nF_eq (b := 1728) h hj (by omega)
theorem n5000_le {j : Nat} (h : 5000 ≤ j) (hj : j < 2147483648) : ((5000 : Int32) ≤ Int32.ofNat j) = True := nT_le (a := 5000) h hj
theorem n5000_leF {j : Nat} (h : j < 5000) : ((5000 : Int32) ≤ Int32.ofNat j) = False := nF_le (a := 5000) h (by omega)
theorem nle_5000 {j : Nat} (h : j ≤ 5000) : (Int32.ofNat j ≤ (5000 : Int32)) = True := nT_le (b := 5000) h (by omega)
theorem nle_5000F {j : Nat} (h : 5000 < j) (hj : j < 2147483648) : (Int32.ofNat j ≤ (5000 : Int32)) = False := nF_le (b := 5000) h hj
theorem n5000_lt {j : Nat} (h : 5000 < j) (hj : j < 2147483648) : ((5000 : Int32) < Int32.ofNat j) = True := nT_lt (a := 5000) h hj
theorem n5000_ltF {j : Nat} (h : j ≤ 5000) : ((5000 : Int32) < Int32.ofNat j) = False := nF_lt (a := 5000) h (by omega)
theorem nlt_5000 {j : Nat} (h : j < 5000) : (Int32.ofNat j < (5000 : Int32)) = True := nT_lt (b := 5000) h (by omega)
theorem nlt_5000F {j : Nat} (h : 5000 ≤ j) (hj : j < 2147483648) : (Int32.ofNat j < (5000 : Int32)) = False := nF_lt (b := 5000) h hj
theorem neq_5000 {j : Nat} (h : j = 5000) : (Int32.ofNat j = (5000 : Int32)) = True := nT_eq (b := 5000) h
theorem neq_5000F {j : Nat} (h : j ≠ 5000) (hj : j < 2147483648) : (Int32.ofNat j = (5000 : Int32)) = False := nF_eq (b := 5000) h hj (by omega)
/-- a row of a store, whole -/
def setR (A : St) (k l c : Nat) (f : Nat → Int32) : St := fun k1 l1 c1 => if k1 = k ∧ l1 = l ∧ c1 = c then f else A k1 l1 c1
theorem setR_ne {A : St} {k l c : Nat} {f : Nat → Int32} {k1 l1 c1 : Nat} (h : own k l c ≠ own k1 l1 c1) : setR A k l c f k1 l1 c1 = A k1 l1 c1 := by
  unfold setR
  rw [if_neg]
  rintro ⟨rfl, rfl, rfl⟩
  exact h rfl
theorem setR_row {A : St} {k l c : Nat} {f : Nat → Int32} : setR A k l c f k l c = f := by
  unfold setR
  simp
theorem setR_self {A : St} {k l c : Nat} : setR A k l c (A k l c) = A := by
  funext k1 l1 c1
  unfold setR
  split
  · rename_i h; rw [h.1, h.2.1, h.2.2]
  · rfl
theorem setR_up4 {A : St} {k l c s : Nat} {v : Int32} : up4 A k l c s v = setR A k l c (upd (A k l c) s v) := by
  funext k1 l1 c1 s1
  unfold setR up4 upd
  by_cases h : k1 = k ∧ l1 = l ∧ c1 = c
  · obtain ⟨rfl, rfl, rfl⟩ := h
    simp
  · rw [if_neg h, if_neg (fun h2 => h ⟨h2.1, h2.2.1, h2.2.2.1⟩)]
theorem setR_setR {A : St} {k l c : Nat} {f g : Nat → Int32} : setR (setR A k l c f) k l c g = setR A k l c g := by
  funext k1 l1 c1
  unfold setR
  split <;> rfl
