/-! the methods of Entries, on any heap that holds one -/
/-- an Entries at e with the rows g (at r) and the count n -/
def EnAt (hp : Hp) (e r : Nat) (g : Nat → Int32) (n : Int32) : Prop := isObj hp e 4 = some [.ref r, .int n] ∧ hp.2 r = .inl (0, 48, .inl g) ∧ 1 ≤ r ∧ r ≤ hp.1
/-- the heap with that Entries otherwise -/
def enPut (hp : Hp) (e r : Nat) (g : Nat → Int32) (n : Int32) : Hp := setHp (setHp hp e (.inr (4, [.ref r, .int n]))) r (.inl (0, 48, .inl g))
theorem set_self {hp : Hp} {a : Nat} {E : va_E} (h : hp.2 a = E) : setHp hp a E = hp := by
  unfold setHp
  rw [← h]
  have : va_up hp.2 a (hp.2 a) = hp.2 := by
    funext j
    unfold va_up
    split
    · rename_i h9; rw [h9]
    · rfl
  rw [this]
section ENT
variable {hp : Hp} {e r : Nat} {g : Nat → Int32} {n : Int32} {Q : Out → Hp → Prop} {i y : Int32}
theorem has_c (h : EnAt hp e r g n) (hi : vp_in i 48) : Call kX4_has [.ref e, .int i] hp Q ↔ Q (.inl (some (.int (if g i.toNatClampNeg = -1 then 0 else 1)))) hp := by
  obtain ⟨h1, h2, h3, h4⟩ := h
  have o0 : outI kX4_has 0 = true := rfl
  have o1 : outI kX4_has 1 = true := rfl
  by_cases hg : g i.toNatClampNeg = -1
  · simp [eX4_has, sX4_has_0, sX4_has_1, sX4_has_4, sX4_has_5, sX4_has_6, sX4_has_7, sX4_has_10, sX4_has_11, sX4_has_14, sX4_has_15, RdF, RdA, h1, h2, h3, h4, hi, hg, o0, o1]
  · simp [eX4_has, sX4_has_0, sX4_has_1, sX4_has_4, sX4_has_5, sX4_has_6, sX4_has_7, sX4_has_10, sX4_has_11, sX4_has_14, sX4_has_15, RdF, RdA, h1, h2, h3, h4, hi, hg, o0, o1]
theorem EnAt.ne (h : EnAt hp e r g n) : e ≠ r := by
  obtain ⟨h1, h2, -, -⟩ := h
  intro h9
  rw [h9] at h1
  simp [isObj, h2] at h1
theorem put_c (h : EnAt hp e r g n) (hi : vp_in i 48) : Call kX4_put [.ref e, .int i, .int y] hp Q ↔ Q (.inl (some (.int (if g i.toNatClampNeg = -1 then n + 1 else n)))) (enPut hp e r (upd g i.toNatClampNeg y) (if g i.toNatClampNeg = -1 then n + 1 else n)) := by
  have hne := h.ne
  obtain ⟨h1, h2, h3, h4⟩ := h
  have hob : 1 ≤ e ∧ e ≤ hp.1 ∧ hp.2 e = .inr (4, [.ref r, .int n]) := by
    unfold isObj at h1
    split at h1
    · rename_i c9 fs9 h9
      split at h1
      · rename_i h8
        cases h1
        exact ⟨h8.2.1, h8.2.2, by rw [h9, h8.1]⟩
      · cases h1
    · cases h1
  obtain ⟨k1, k2, k3⟩ := hob
  have hse : setHp hp e (.inr (4, [.ref r, .int n])) = hp := set_self k3
  have hne2 := hne.symm
  by_cases hg : g i.toNatClampNeg = -1
  · simp [eX4_put, sX4_put_0, sX4_put_1, sX4_put_4, sX4_put_5, sX4_put_6, sX4_put_7, sX4_put_10, sX4_put_11, sX4_put_12, sX4_put_15, sX4_put_16, sX4_put_17, sX4_put_20, sX4_put_21, sX4_put_24, sX4_put_25, sX4_put_26, sX4_put_27, sX4_put_28, sX4_put_31, RdF, WrF, RdA, WrA, isObj, setHp, va_up, enPut, h2, h3, h4, hi, hg, k1, k2, k3, hne, hne2]
  · rw [show enPut hp e r (upd g i.toNatClampNeg y) (if g i.toNatClampNeg = -1 then n + 1 else n) = setHp hp r (.inl (0, 48, .inl (upd g i.toNatClampNeg y))) by rw [if_neg hg]; unfold enPut; rw [hse]]
    simp [eX4_put, sX4_put_0, sX4_put_1, sX4_put_4, sX4_put_5, sX4_put_6, sX4_put_7, sX4_put_20, sX4_put_21, sX4_put_24, sX4_put_25, sX4_put_26, sX4_put_27, sX4_put_28, sX4_put_31, RdF, WrF, RdA, WrA, isObj, setHp, va_up, h2, h3, h4, hi, hg, k1, k2, k3, hne, hne2]
end ENT
