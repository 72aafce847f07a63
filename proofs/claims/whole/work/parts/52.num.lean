/-! small ints as numbers -/
theorem i_int {j : Nat} (h : j < 2147483648) : (Int32.ofNat j).toInt = (j : Int) := Int32.toInt_ofNat_of_lt (by omega)
theorem i_nat {j : Nat} (h : j < 2147483648) : (Int32.ofNat j).toNatClampNeg = j := by
  show (Int32.ofNat j).toInt.toNat = j
  rw [i_int h]
  rfl
theorem i_le {a b : Nat} (ha : a < 2147483648) (hb : b < 2147483648) : Int32.ofNat a ≤ Int32.ofNat b ↔ a ≤ b := by
  rw [Int32.le_iff_toInt_le, i_int ha, i_int hb]
  omega
theorem i_lt {a b : Nat} (ha : a < 2147483648) (hb : b < 2147483648) : Int32.ofNat a < Int32.ofNat b ↔ a < b := by
  rw [Int32.lt_iff_toInt_lt, i_int ha, i_int hb]
  omega
theorem i_in {j n : Nat} (h : j < n) (hn : n ≤ 2147483648) : vp_in (Int32.ofNat j) n := by
  unfold vp_in
  rw [i_nat (by omega)]
  intro h9
  rcases h9 with h9 | h9
  · have := (i_lt (a := j) (b := 0) (by omega) (by omega)).mp h9
    omega
  · omega
theorem i_succ {j : Nat} : Int32.ofNat j + 1 = Int32.ofNat (j + 1) := (Int32.ofNat_add j 1).symm
