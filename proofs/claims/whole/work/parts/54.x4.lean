/-! Entries.drop -/
section DRP
variable {hp : Hp} {e r : Nat} {g : Nat → Int32} {n : Int32} {Q : Out → Hp → Prop} {i : Int32}
theorem drop_c (h : EnAt hp e r g n) (hi : vp_in i 48) : Call kX4_drop [.ref e, .int i] hp Q ↔ Q (.inl (some (.int (if g i.toNatClampNeg = -1 then n else n - 1)))) (enPut hp e r (upd g i.toNatClampNeg (-1)) (if g i.toNatClampNeg = -1 then n else n - 1)) := by
  have hne := h.ne
  obtain ⟨k1, k2, k3⟩ := h.obj
  obtain ⟨h1, h2, h3, h4⟩ := h
  have hse : setHp hp e (.inr (4, [.ref r, .int n])) = hp := set_self k3
  have hne2 := hne.symm
  by_cases hg : g i.toNatClampNeg = -1
  · rw [show enPut hp e r (upd g i.toNatClampNeg (-1)) (if g i.toNatClampNeg = -1 then n else n - 1) = setHp hp r (.inl (0, 48, .inl (upd g i.toNatClampNeg (-1)))) by rw [if_pos hg]; unfold enPut; rw [hse]]
    simp [eX4_drop, sX4_drop_0, sX4_drop_1, sX4_drop_4, sX4_drop_5, sX4_drop_6, sX4_drop_7, sX4_drop_20, sX4_drop_21, sX4_drop_24, sX4_drop_25, sX4_drop_26, sX4_drop_27, sX4_drop_28, sX4_drop_31, RdF, WrF, RdA, WrA, isObj, setHp, va_up, h2, h3, h4, hi, hg, k1, k2, k3, hne, hne2]
  · simp [eX4_drop, sX4_drop_0, sX4_drop_1, sX4_drop_4, sX4_drop_5, sX4_drop_6, sX4_drop_7, sX4_drop_10, sX4_drop_11, sX4_drop_12, sX4_drop_15, sX4_drop_16, sX4_drop_17, sX4_drop_20, sX4_drop_21, sX4_drop_24, sX4_drop_25, sX4_drop_26, sX4_drop_27, sX4_drop_28, sX4_drop_31, RdF, WrF, RdA, WrA, isObj, setHp, va_up, enPut, h2, h3, h4, hi, hg, k1, k2, k3, hne, hne2]
end DRP
/-! Entries.copy -/
section CPY
variable {hp : Hp} {e r e2 r2 : Nat} {g g2 : Nat → Int32} {n n2 : Int32} {Q : Out → Hp → Prop}
theorem rd_rows (h : EnAt hp e r g n) (K : Value → Prop) : RdF hp e 4 0 K ↔ K (.ref r) := by
  unfold RdF
  rw [h.1]
  rfl
theorem rd_count (h : EnAt hp e r g n) (K : Value → Prop) : RdF hp e 4 1 K ↔ K (.int n) := by
  unfold RdF
  rw [h.1]
  rfl
theorem EnAt.other (h : EnAt hp e r g n) (h2 : EnAt hp e2 r2 g2 n2) (hr : r ≠ r2) {g' : Nat → Int32} : EnAt (setHp hp r (.inl (0, 48, .inl g'))) e2 r2 g2 n2 := by
  obtain ⟨k1, k2, k3⟩ := h2.obj
  have h9 : ¬ e2 = r := fun q => by
    have := h.2.1
    rw [← q, k3] at this
    cases this
  exact EnAt.of ⟨k1, k2, by simp [setHp, va_up, h9, k3]⟩ (by simp [setHp, va_up, Ne.symm hr, h2.2.1]) h2.2.2
theorem copy_c (h : EnAt hp e r g n) (h2 : EnAt hp e2 r2 g2 n2) (hr : r ≠ r2) : Call kX4_copy [.ref e, .ref e2] hp Q ↔ Q (.inl none) (enPut hp e r (va_cpy g2 g 0 0 48) n2) := by
  have hcp : ∀ K : Hp → Prop, Cpy hp r2 r 0 0 48 K ↔ K (setHp hp r (.inl (0, 48, .inl (va_cpy g2 g 0 0 48)))) := by
    intro K
    have z0 : (0 : Int32).toNatClampNeg = 0 := rfl
    have z48 : (48 : Int32).toNatClampNeg = 48 := rfl
    have z1 : ¬ (0 : Int32) < 0 := by decide
    have z2 : ¬ (48 : Int32) < 0 := by decide
    unfold Cpy
    rw [h.2.1, h2.2.1]
    simp only [z0, z48, z1, z2, h.2.2.1, h.2.2.2, h2.2.2.1, h2.2.2.2]
    simp
  have g1 : EnAt (setHp hp r (.inl (0, 48, .inl (va_cpy g2 g 0 0 48)))) e2 r2 g2 n2 := h.other h2 hr
  have g3 : EnAt (setHp hp r (.inl (0, 48, .inl (va_cpy g2 g 0 0 48)))) e r (va_cpy g2 g 0 0 48) n := h.setR
  have hw : ∀ K : Hp → Prop, WrF (setHp hp r (.inl (0, 48, .inl (va_cpy g2 g 0 0 48)))) e 4 1 (.int n2) K ↔ K (enPut hp e r (va_cpy g2 g 0 0 48) n2) := by
    intro K
    unfold WrF
    rw [g3.1]
    simp only [List.set_cons_succ, List.set_cons_zero, List.length_cons, List.length_nil, enPut_ne h.ne]
    simp
  have hn : nsum [] ≤ 8 := by decide
  simp only [eX4_copy, sX4_copy_0, sX4_copy_1, rd_rows h2, sX4_copy_4, sX4_copy_5, sX4_copy_6, rd_rows h, sX4_copy_9, sX4_copy_10, sX4_copy_12, hn, true_and, hcp, sX4_copy_15, sX4_copy_16, sX4_copy_17, rd_count g1, sX4_copy_20, hw, sX4_copy_23]
end CPY
