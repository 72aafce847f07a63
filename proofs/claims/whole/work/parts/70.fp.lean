/-! floats: no NaN is made; a fade stays from 0 to 256 -/
theorem nn_of {r : UInt32} (h : r.toNat % 2 ^ 31 ≤ 2139095040) : nn32 r = true := by
  unfold nn32
  refine decide_eq_true (UInt32.le_iff_toNat_le.mpr ?_)
  rw [FP.Core.mask_toNat32]
  exact h
theorem nn_mag {r : UInt32} {K : Nat} (h : r.toNat % 2 ^ 31 < K * 2 ^ 23) (hK : K ≤ 255) : nn32 r = true := nn_of (by omega)
theorem nnd_of {r : UInt64} (h : r.toNat % 2 ^ 63 ≤ 9218868437227405312) : nn64 r = true := by
  unfold nn64
  refine decide_eq_true (UInt64.le_iff_toNat_le.mpr ?_)
  rw [FP.Core.mask_toNat]
  exact h
theorem c2_mag : (FP.fconst2 : UInt32).toNat % 2 ^ 31 < 129 * 2 ^ 23 := by decide +kernel
theorem i2f_lt (v : Int32) : (FP.i2f v).toNat % 2 ^ 31 < 160 * 2 ^ 23 := FP.Core.i2f_mag v
theorem okW_of {sz per a : Int32} (h : ¬ per = 0) : okW sz per a := by
  have hp := FP.Core.i2f_big (FP.Core.int32_ne h)
  have ha := i2f_lt a
  have hs := i2f_lt sz
  have d1 : (FP.fdiv (FP.i2f a) (FP.i2f per)).toNat % 2 ^ 31 < 161 * 2 ^ 23 := by have q := FP.Core.fdiv_mag ha hp.1 hp.2 (by omega) (by omega); omega
  have d2 : (FP.fmul (FP.i2f sz) (FP.fdiv (FP.i2f a) (FP.i2f per))).toNat % 2 ^ 31 < 195 * 2 ^ 23 := by have q := FP.Core.fmul_mag hs d1 (by omega) (by omega); omega
  have d3 : (FP.fmul FP.fconst2 (FP.i2f a)).toNat % 2 ^ 31 < 163 * 2 ^ 23 := by have q := FP.Core.fmul_mag c2_mag ha (by omega) (by omega); omega
  have d4 : (FP.fdiv (FP.fmul FP.fconst2 (FP.i2f a)) (FP.i2f per)).toNat % 2 ^ 31 < 164 * 2 ^ 23 := by have q := FP.Core.fdiv_mag d3 hp.1 hp.2 (by omega) (by omega); omega
  have d5 : (FP.fmul (FP.i2f sz) (FP.fdiv (FP.fmul FP.fconst2 (FP.i2f a)) (FP.i2f per))).toNat % 2 ^ 31 < 198 * 2 ^ 23 := by have q := FP.Core.fmul_mag hs d4 (by omega) (by omega); omega
  have c2 : (FP.fconst2 : UInt32).toNat % 2 ^ 31 < 164 * 2 ^ 23 := by have := c2_mag; omega
  have d6 : (FP.fsub FP.fconst2 (FP.fdiv (FP.fmul FP.fconst2 (FP.i2f a)) (FP.i2f per))).toNat % 2 ^ 31 < 166 * 2 ^ 23 := by have q := FP.Core.fsub_mag c2 d4 (by omega); omega
  have d7 : (FP.fmul (FP.i2f sz) (FP.fsub FP.fconst2 (FP.fdiv (FP.fmul FP.fconst2 (FP.i2f a)) (FP.i2f per)))).toNat % 2 ^ 31 < 200 * 2 ^ 23 := by have q := FP.Core.fmul_mag hs d6 (by omega) (by omega); omega
  exact ⟨nn_mag d1 (by omega), nn_mag d2 (by omega), nn_mag d3 (by omega), nn_mag d4 (by omega), nn_mag d5 (by omega), nn_mag d6 (by omega), nn_mag d7 (by omega)⟩
theorem wavF_mag {sh sz per a : Int32} (h : ¬ per = 0) : (wavF sh sz per a).toNat % 2 ^ 31 < 200 * 2 ^ 23 := by
  have hp := FP.Core.i2f_big (FP.Core.int32_ne h)
  have ha := i2f_lt a
  have hs := i2f_lt sz
  have d1 : (FP.fdiv (FP.i2f a) (FP.i2f per)).toNat % 2 ^ 31 < 161 * 2 ^ 23 := by have q := FP.Core.fdiv_mag ha hp.1 hp.2 (by omega) (by omega); omega
  have d2 : (FP.fmul (FP.i2f sz) (FP.fdiv (FP.i2f a) (FP.i2f per))).toNat % 2 ^ 31 < 195 * 2 ^ 23 := by have q := FP.Core.fmul_mag hs d1 (by omega) (by omega); omega
  have d3 : (FP.fmul FP.fconst2 (FP.i2f a)).toNat % 2 ^ 31 < 163 * 2 ^ 23 := by have q := FP.Core.fmul_mag c2_mag ha (by omega) (by omega); omega
  have d4 : (FP.fdiv (FP.fmul FP.fconst2 (FP.i2f a)) (FP.i2f per)).toNat % 2 ^ 31 < 164 * 2 ^ 23 := by have q := FP.Core.fdiv_mag d3 hp.1 hp.2 (by omega) (by omega); omega
  have d5 : (FP.fmul (FP.i2f sz) (FP.fdiv (FP.fmul FP.fconst2 (FP.i2f a)) (FP.i2f per))).toNat % 2 ^ 31 < 198 * 2 ^ 23 := by have q := FP.Core.fmul_mag hs d4 (by omega) (by omega); omega
  have c2 : (FP.fconst2 : UInt32).toNat % 2 ^ 31 < 164 * 2 ^ 23 := by have := c2_mag; omega
  have d6 : (FP.fsub FP.fconst2 (FP.fdiv (FP.fmul FP.fconst2 (FP.i2f a)) (FP.i2f per))).toNat % 2 ^ 31 < 166 * 2 ^ 23 := by have q := FP.Core.fsub_mag c2 d4 (by omega); omega
  have d7 : (FP.fmul (FP.i2f sz) (FP.fsub FP.fconst2 (FP.fdiv (FP.fmul FP.fconst2 (FP.i2f a)) (FP.i2f per)))).toNat % 2 ^ 31 < 200 * 2 ^ 23 := by have q := FP.Core.fmul_mag hs d6 (by omega) (by omega); omega
  have c0 : (FP.fconst0 : UInt32).toNat % 2 ^ 31 < 200 * 2 ^ 23 := by decide +kernel
  unfold wavF
  split
  · omega
  · split
    · split <;> omega
    · split
      · exact c0
      · omega
/-- the value as a whole number of the least floats -/
def zv (x : UInt32) : Int := FP.Core.zval FP.Core.b32 (FP.Core.val32 x)
def o32 : Int := (2 ^ 149 : Nat)
theorem o32_pos : 0 < o32 := by unfold o32; exact Int.natCast_pos.mpr (Nat.two_pow_pos 149)
theorem fin_ne {x : UInt32} (h : FP.Core.FFin x) : FP.Core.val32 x ≠ .nan := h.ne_nan
/-- from 0 to 256 -/
def fb (x : UInt32) : Prop := x.toNat ≤ 0x43800000
theorem fb_fin {x : UInt32} (h : fb x) : FP.Core.FFin x := (FP.Core.fin_bits32 x).mpr (by unfold fb at h; omega)
theorem fb_mag {x : UInt32} (h : fb x) : x.toNat % 2 ^ 31 < 136 * 2 ^ 23 := by unfold fb at h; omega
theorem fb_sgn {x : UInt32} (h : fb x) : FP.Core.sgn (FP.Core.val32 x) = false := by
  rw [FP.Core.sgn_bits32 (fin_ne (fb_fin h))]
  unfold fb at h
  exact decide_eq_false (by omega)
theorem zv_le {x y : UInt32} (hx : FP.Core.val32 x ≠ .nan) (hy : FP.Core.val32 y ≠ .nan) (sx : x.toNat < 2 ^ 31) (sy : y.toNat < 2 ^ 31) : zv x ≤ zv y ↔ x.toNat ≤ y.toNat := by
  unfold zv FP.Core.zval
  rw [FP.Core.sgn_bits32 hx, FP.Core.sgn_bits32 hy, FP.Core.zmag_toNat32 hx, FP.Core.zmag_toNat32 hy, Nat.mod_eq_of_lt sx, Nat.mod_eq_of_lt sy]
  rw [show decide (2 ^ 31 ≤ x.toNat) = false from decide_eq_false (by omega), show decide (2 ^ 31 ≤ y.toNat) = false from decide_eq_false (by omega)]
  show ((FP.Core.unitsOf FP.Core.b32 x.toNat : Nat) : Int) ≤ ((FP.Core.unitsOf FP.Core.b32 y.toNat : Nat) : Int) ↔ _
  rw [Int.ofNat_le]
  exact FP.Core.unitsOf_le_iff
theorem zv_256 : zv 0x43800000 = 256 * o32 := by decide +kernel
theorem zv_nonneg {x : UInt32} (hx : FP.Core.val32 x ≠ .nan) (sx : x.toNat < 2 ^ 31) : 0 ≤ zv x := FP.Core.zval_nonneg32 hx sx
theorem fb_iff {x : UInt32} (hx : FP.Core.FFin x) (hs : FP.Core.sgn (FP.Core.val32 x) = false) : fb x ↔ zv x ≤ 256 * o32 := by
  rw [FP.Core.sgn_bits32 (fin_ne hx)] at hs
  have h1 := of_decide_eq_false hs
  rw [← zv_256, zv_le (fin_ne hx) (fin_ne ((FP.Core.fin_bits32 _).mpr (by decide +kernel))) (by omega) (by decide +kernel)]
  unfold fb
  exact Iff.rfl
theorem fb_zv {x : UInt32} (h : fb x) : 0 ≤ zv x ∧ zv x ≤ 256 * o32 := ⟨zv_nonneg (fin_ne (fb_fin h)) (by unfold fb at h; omega), (fb_iff (fb_fin h) (fb_sgn h)).mp h⟩
theorem zv_i2f {n : Nat} (h : n ≤ 16777216) : zv (FP.i2f (Int32.ofNat n)) = n * o32 := by
  have h1 : (Int32.ofNat n).toInt = (n : Int) := i_int (by omega)
  have h2 := FP.Core.FInt_zval (FP.Core.i2f_int (a := Int32.ofNat n) (by omega))
  rw [h1] at h2
  exact h2
theorem i2f_fin (v : Int32) : FP.Core.FFin (FP.i2f v) := FP.Core.i2f_fin v
section MONO
variable {x y V : UInt32}
theorem add_le (hx : FP.Core.FFin x) (hy : FP.Core.FFin y) (hV : FP.Core.val32 V ≠ .nan) (h : zv x + zv y ≤ zv V) : zv (FP.fadd x y) ≤ zv V := by
  unfold zv
  rw [show FP.Core.val32 (FP.fadd x y) = _ from FP.Core.val32_fadd x y]
  exact FP.Core.sum_le FP.Core.good_b32 hx hy (FP.Core.val32_fits x) (FP.Core.val32_fits y) (FP.Core.val32_fits V) hV h
theorem add_ge (hx : FP.Core.FFin x) (hy : FP.Core.FFin y) (hV : FP.Core.val32 V ≠ .nan) (h : zv V ≤ zv x + zv y) : zv V ≤ zv (FP.fadd x y) := by
  unfold zv
  rw [show FP.Core.val32 (FP.fadd x y) = _ from FP.Core.val32_fadd x y]
  exact FP.Core.sum_ge FP.Core.good_b32 hx hy (FP.Core.val32_fits x) (FP.Core.val32_fits y) (FP.Core.val32_fits V) hV h
theorem neg_fin (hy : FP.Core.FFin y) : ∃ s c q, FP.Core.negate (FP.Core.val32 y) = .fin s c q := by
  obtain ⟨s, c, q, h⟩ := hy
  exact ⟨!s, c, q, by rw [h]; rfl⟩
theorem sub_le (hx : FP.Core.FFin x) (hy : FP.Core.FFin y) (hV : FP.Core.val32 V ≠ .nan) (h : zv x - zv y ≤ zv V) : zv (FP.fsub x y) ≤ zv V := by
  unfold zv at *
  rw [show FP.Core.val32 (FP.fsub x y) = _ from FP.Core.val32_fsub x y]
  refine FP.Core.sum_le FP.Core.good_b32 hx (neg_fin hy) (FP.Core.val32_fits x) (FP.Core.negate_fits (FP.Core.val32_fits y)) (FP.Core.val32_fits V) hV ?_
  rw [FP.Core.zval_negate]
  omega
theorem sub_ge (hx : FP.Core.FFin x) (hy : FP.Core.FFin y) (h : 0 ≤ zv x) : -zv y ≤ zv (FP.fsub x y) := by
  unfold zv at *
  rw [show FP.Core.val32 (FP.fsub x y) = _ from FP.Core.val32_fsub x y, ← FP.Core.zval_negate]
  refine FP.Core.sum_ge FP.Core.good_b32 hx (neg_fin hy) (FP.Core.val32_fits x) (FP.Core.negate_fits (FP.Core.val32_fits y)) (FP.Core.negate_fits (FP.Core.val32_fits y)) (FP.Core.negate_ne_nan hy.ne_nan) ?_
  omega
theorem prod_zv {s t : Bool} {c d : Nat} {q r : Int} (hx : FP.Core.val32 x = .fin s c q) (hy : FP.Core.val32 y = .fin t d r) : FP.Core.signed (s != t) (FP.Core.inUnits (c * d) (q + r) (2 * FP.Core.b32.qmin)) = zv x * zv y := by
  have fx := FP.Core.val32_fits x
  have fy := FP.Core.val32_fits y
  rw [hx] at fx
  rw [hy] at fy
  rw [(FP.Core.product_units fx fy).2.2, FP.Core.signed_xor]
  unfold zv
  rw [hx, hy]
  rfl
theorem mul_le (hx : FP.Core.FFin x) (hy : FP.Core.FFin y) (hV : FP.Core.val32 V ≠ .nan) (h : zv x * zv y ≤ zv V * o32) : zv (FP.fmul x y) ≤ zv V := by
  obtain ⟨s, c, q, e1⟩ := hx
  obtain ⟨t, d, r, e2⟩ := hy
  have fx := FP.Core.val32_fits x
  have fy := FP.Core.val32_fits y
  have hp := prod_zv e1 e2
  rw [e1] at fx
  rw [e2] at fy
  have hz : zv (FP.fmul x y) = FP.Core.zval FP.Core.b32 (FP.Core.round FP.Core.b32 (.fin (s != t) (c * d) (q + r))) := by
    unfold zv
    rw [show FP.Core.val32 (FP.fmul x y) = _ from FP.Core.val32_fmul x y, e1, e2]
    rfl
  rw [hz]
  refine FP.Core.zval_round_le FP.Core.good_b32 (FP.Core.val32_fits V) hV (e0 := 2 * FP.Core.b32.qmin) (by decide) (FP.Core.product_units fx fy).2.1 ?_
  rw [hp]
  exact h
theorem mul_ge (hx : FP.Core.FFin x) (hy : FP.Core.FFin y) (hV : FP.Core.val32 V ≠ .nan) (h : zv V * o32 ≤ zv x * zv y) : zv V ≤ zv (FP.fmul x y) := by
  obtain ⟨s, c, q, e1⟩ := hx
  obtain ⟨t, d, r, e2⟩ := hy
  have fx := FP.Core.val32_fits x
  have fy := FP.Core.val32_fits y
  have hp := prod_zv e1 e2
  rw [e1] at fx
  rw [e2] at fy
  have hz : zv (FP.fmul x y) = FP.Core.zval FP.Core.b32 (FP.Core.round FP.Core.b32 (.fin (s != t) (c * d) (q + r))) := by
    unfold zv
    rw [show FP.Core.val32 (FP.fmul x y) = _ from FP.Core.val32_fmul x y, e1, e2]
    rfl
  rw [hz]
  refine FP.Core.zval_round_ge FP.Core.good_b32 (FP.Core.val32_fits V) hV (e0 := 2 * FP.Core.b32.qmin) (by decide) (FP.Core.product_units fx fy).2.1 ?_
  rw [hp]
  exact h
/-- a sum's sign -/
theorem add_sgn (hx : FP.Core.FFin x) (hy : FP.Core.FFin y) (hs : FP.Core.sgn (FP.Core.val32 x) = false) (h : 0 ≤ zv x + zv y) : FP.Core.sgn (FP.Core.val32 (FP.fadd x y)) = false := by
  obtain ⟨s, c, q, e1⟩ := hx
  obtain ⟨t, d, r, e2⟩ := hy
  have fx := FP.Core.val32_fits x
  have fy := FP.Core.val32_fits y
  unfold zv at h
  rw [show FP.Core.val32 (FP.fadd x y) = _ from FP.Core.val32_fadd x y]
  rw [e1] at fx hs h ⊢
  rw [e2] at fy h ⊢
  have hs2 : s = false := hs
  subst hs2
  obtain ⟨sg, n, e, h1, h2, h3⟩ := FP.Core.sum_units fx fy
  have h4 : sg = FP.Core.sumSign false t (FP.Core.sumUnits false c q t d r (min q r)) := by
    have : FP.Core.exactSum (.fin false c q) (.fin t d r) = .fin (FP.Core.sumSign false t (FP.Core.sumUnits false c q t d r (min q r))) (FP.Core.sumUnits false c q t d r (min q r)).natAbs (min q r) := rfl
    rw [this] at h1
    cases h1
    rfl
  have h5 : sg = false := by
    cases sg with
    | false => rfl
    | true =>
      have h6 : n = 0 := by
        have h7 : FP.Core.signed true (FP.Core.inUnits n e FP.Core.b32.qmin) = -((FP.Core.inUnits n e FP.Core.b32.qmin : Nat) : Int) := rfl
        rw [h7] at h3
        have h8 : FP.Core.inUnits n e FP.Core.b32.qmin = 0 := by omega
        unfold FP.Core.inUnits at h8
        rcases Nat.mul_eq_zero.mp h8 with h9 | h9
        · exact h9
        · have := Nat.two_pow_pos (e - FP.Core.b32.qmin).toNat; omega
      have h7 : FP.Core.sumUnits false c q t d r (min q r) = 0 := by
        have : FP.Core.exactSum (.fin false c q) (.fin t d r) = .fin (FP.Core.sumSign false t (FP.Core.sumUnits false c q t d r (min q r))) (FP.Core.sumUnits false c q t d r (min q r)).natAbs (min q r) := rfl
        rw [this] at h1
        injection h1 with a1 a2 a3
        omega
      rw [h7] at h4
      exact absurd h4 (by simp [FP.Core.sumSign])
  rw [h1, h5]
  exact FP.Core.sgn_roundRatio _ _ _ _ _
theorem mul_sgn (hx : FP.Core.FFin x) (hy : FP.Core.FFin y) (h1 : FP.Core.sgn (FP.Core.val32 x) = false) (h2 : FP.Core.sgn (FP.Core.val32 y) = false) : FP.Core.sgn (FP.Core.val32 (FP.fmul x y)) = false := by
  obtain ⟨s, c, q, e1⟩ := hx
  obtain ⟨t, d, r, e2⟩ := hy
  rw [show FP.Core.val32 (FP.fmul x y) = _ from FP.Core.val32_fmul x y]
  rw [e1] at h1 ⊢
  rw [e2] at h2 ⊢
  have a1 : s = false := h1
  have a2 : t = false := h2
  subst a1 a2
  exact FP.Core.sgn_roundRatio _ _ _ _ _
end MONO
/-- from 0 to 1 -/
def f1 (x : UInt32) : Prop := x.toNat ≤ 0x3f800000
theorem f1_fb {x : UInt32} (h : f1 x) : fb x := by unfold f1 at h; unfold fb; omega
theorem zv_1 : zv 0x3f800000 = o32 := by decide +kernel
theorem f1_zv {x : UInt32} (h : f1 x) : 0 ≤ zv x ∧ zv x ≤ o32 := by
  have h2 := f1_fb h
  refine ⟨(fb_zv h2).1, ?_⟩
  rw [← zv_1, zv_le (fin_ne (fb_fin h2)) (fin_ne ((FP.Core.fin_bits32 _).mpr (by decide +kernel))) (by unfold f1 at h; omega) (by decide +kernel)]
  exact h
/-- a value under a master -/
theorem mul_f1 {v m : UInt32} (hv : fb v) (hm : f1 m) : nn32 (FP.fmul v m) = true ∧ fb (FP.fmul v m) := by
  have hmf := f1_fb hm
  have g1 : (FP.fmul v m).toNat % 2 ^ 31 < 146 * 2 ^ 23 := by have q := FP.Core.fmul_mag (fb_mag hv) (fb_mag hmf) (by omega) (by omega); omega
  have g2 : FP.Core.FFin (FP.fmul v m) := FP.Core.fin_of_lt32 g1 (by omega)
  refine ⟨nn_mag g1 (by omega), (fb_iff g2 (mul_sgn (fb_fin hv) (fb_fin hmf) (fb_sgn hv) (fb_sgn hmf))).mpr ?_⟩
  refine Int.le_trans (mul_le (V := v) (fb_fin hv) (fb_fin hmf) (fin_ne (fb_fin hv)) ?_) (fb_zv hv).2
  exact Int.mul_le_mul_of_nonneg_left (f1_zv hm).2 (fb_zv hv).1
/-- a fade on its way -/
theorem fade_ok {fr p : UInt32} {g : Nat} (hf : fb fr) (hp : f1 p) (hg : g ≤ 255) :
    nn32 (FP.fsub (FP.i2f (Int32.ofNat g)) fr) = true ∧ nn32 (FP.fmul (FP.fsub (FP.i2f (Int32.ofNat g)) fr) p) = true ∧ nn32 (FP.fadd fr (FP.fmul (FP.fsub (FP.i2f (Int32.ofNat g)) fr) p)) = true ∧ fb (FP.fadd fr (FP.fmul (FP.fsub (FP.i2f (Int32.ofNat g)) fr) p)) := by
  have hpf := f1_fb hp
  have hfm : fr.toNat % 2 ^ 31 < 160 * 2 ^ 23 := by have := fb_mag hf; omega
  have hzg := zv_i2f (n := g) (by omega)
  have hig : FP.Core.FFin (FP.i2f (Int32.ofNat g)) := i2f_fin _
  have m1 : (FP.fsub (FP.i2f (Int32.ofNat g)) fr).toNat % 2 ^ 31 < 162 * 2 ^ 23 := by have q := FP.Core.fsub_mag (i2f_lt (Int32.ofNat g)) hfm (by omega); omega
  have hd : FP.Core.FFin (FP.fsub (FP.i2f (Int32.ofNat g)) fr) := FP.Core.fin_of_lt32 m1 (by omega)
  have hdl := sub_ge hig (fb_fin hf) (by rw [hzg]; exact Int.mul_nonneg (by omega) (Int.le_of_lt o32_pos))
  have hsub : ∀ V, FP.Core.val32 V ≠ .nan → zv (FP.i2f (Int32.ofNat g)) - zv fr ≤ zv V → zv (FP.fsub (FP.i2f (Int32.ofNat g)) fr) ≤ zv V := fun V hV h => sub_le hig (fb_fin hf) hV h
  rw [hzg] at hsub
  generalize FP.fsub (FP.i2f (Int32.ofNat g)) fr = d at *
  have m2 : (FP.fmul d p).toNat % 2 ^ 31 < 172 * 2 ^ 23 := by have q := FP.Core.fmul_mag m1 (fb_mag hpf) (by omega) (by omega); omega
  have he : FP.Core.FFin (FP.fmul d p) := FP.Core.fin_of_lt32 m2 (by omega)
  have m3 : (FP.fadd fr (FP.fmul d p)).toNat % 2 ^ 31 < 174 * 2 ^ 23 := by have hfm2 : fr.toNat % 2 ^ 31 < 172 * 2 ^ 23 := (by omega); have q := FP.Core.fadd_mag hfm2 m2 (by omega); omega
  have hr : FP.Core.FFin (FP.fadd fr (FP.fmul d p)) := FP.Core.fin_of_lt32 m3 (by omega)
  obtain ⟨p0, p1⟩ := f1_zv hp
  obtain ⟨f0, f2⟩ := fb_zv hf
  have z0 : zv (0 : UInt32) = 0 := FP.Core.zval32_zero
  have n0 : FP.Core.val32 0 ≠ .nan := by rw [FP.Core.val32_zero]; exact FP.Core.Datum.noConfusion
  have n256 : FP.Core.val32 (0x43800000 : UInt32) ≠ .nan := fin_ne ((FP.Core.fin_bits32 _).mpr (by decide +kernel))
  have hlow : 0 ≤ zv fr + zv (FP.fmul d p) := by
    by_cases hd0 : 0 ≤ zv d
    · have := mul_ge (V := 0) hd (fb_fin hpf) n0 (by rw [z0, Int.zero_mul]; exact Int.mul_nonneg hd0 p0)
      rw [z0] at this
      omega
    · have h1 : zv d * o32 ≤ zv d * zv p := Int.mul_le_mul_of_nonpos_left (by omega) p1
      have := mul_ge (V := d) hd (fb_fin hpf) (fin_ne hd) h1
      omega
  refine ⟨nn_mag m1 (by omega), nn_mag m2 (by omega), nn_mag m3 (by omega), (fb_iff hr (add_sgn (fb_fin hf) he (fb_sgn hf) hlow)).mpr ?_⟩
  rw [← zv_256]
  refine add_le (fb_fin hf) he n256 ?_
  rw [zv_256]
  by_cases hd0 : zv d ≤ 0
  · have := mul_le (V := 0) hd (fb_fin hpf) n0 (by rw [z0, Int.zero_mul]; exact Int.mul_nonpos_of_nonpos_of_nonneg hd0 p0)
    rw [z0] at this
    omega
  · have h1 := mul_le (V := d) hd (fb_fin hpf) (fin_ne hd) (Int.mul_le_mul_of_nonneg_left p1 (by omega))
    have hgf : zv fr < g * o32 := by
      apply Int.lt_of_not_ge
      intro h9
      have := hsub 0 n0 (by rw [z0]; omega)
      rw [z0] at this
      omega
    obtain ⟨k, hk⟩ : ∃ k : Nat, zv fr / o32 = (k : Int) := ⟨(zv fr / o32).toNat, by have := Int.ediv_nonneg f0 (Int.le_of_lt o32_pos); omega⟩
    have hk1 : (k : Int) * o32 ≤ zv fr := by rw [← hk]; exact Int.ediv_mul_le _ (Int.ne_of_gt o32_pos)
    have hk2 : zv fr < ((k : Int) + 1) * o32 := by rw [← hk]; exact Int.lt_ediv_add_one_mul_self _ o32_pos
    have hk3 : k < g := by
      have := Int.lt_of_le_of_lt hk1 hgf
      have := Int.lt_of_mul_lt_mul_right this (Int.le_of_lt o32_pos)
      omega
    have hV := hsub (FP.i2f (Int32.ofNat (g - k))) (fin_ne (i2f_fin _)) (by
      rw [zv_i2f (by omega)]
      have e1 : ((g - k : Nat) : Int) * o32 = (g : Int) * o32 - (k : Int) * o32 := by rw [← Int.sub_mul]; congr 1; omega
      rw [e1]
      omega)
    rw [zv_i2f (by omega)] at hV
    have e1 : ((g - k : Nat) : Int) * o32 = (g : Int) * o32 - (k : Int) * o32 := by rw [← Int.sub_mul]; congr 1; omega
    rw [e1] at hV
    have e2 : ((k : Int) + 1) * o32 = (k : Int) * o32 + o32 := by rw [Int.add_mul, Int.one_mul]
    have e3 : (g : Int) * o32 ≤ 255 * o32 := Int.mul_le_mul_of_nonneg_right (by omega) (Int.le_of_lt o32_pos)
    have e4 : (256 : Int) * o32 = 255 * o32 + o32 := by rw [show (256 : Int) = 255 + 1 from rfl, Int.add_mul, Int.one_mul]
    omega
