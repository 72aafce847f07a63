/-! Entries.empty: a loop (the way of all loops: by induction on the rounds left) -/
theorem set_set {hp : Hp} {a : Nat} {E F : va_E} : setHp (setHp hp a E) a F = setHp hp a F := by
  unfold setHp va_up
  simp only [Prod.mk.injEq, true_and]
  funext j
  split <;> rfl
theorem EnAt.obj {hp : Hp} {e r : Nat} {g : Nat → Int32} {n : Int32} (h : EnAt hp e r g n) : 1 ≤ e ∧ e ≤ hp.1 ∧ hp.2 e = .inr (4, [.ref r, .int n]) := by
  obtain ⟨h1, h2, h3⟩ := isObj_spec h.1
  exact ⟨h2, h3, h1⟩
theorem EnAt.of {hp : Hp} {e r : Nat} {g : Nat → Int32} {n : Int32} (h1 : 1 ≤ e ∧ e ≤ hp.1 ∧ hp.2 e = .inr (4, [.ref r, .int n])) (h2 : hp.2 r = .inl (0, 48, .inl g)) (h3 : 1 ≤ r ∧ r ≤ hp.1) : EnAt hp e r g n := ⟨by simp [isObj, h1.2.2, h1.1, h1.2.1], h2, h3⟩
theorem EnAt.setR {hp : Hp} {e r : Nat} {g g' : Nat → Int32} {n : Int32} (h : EnAt hp e r g n) : EnAt (setHp hp r (.inl (0, 48, .inl g'))) e r g' n := by
  have hne := h.ne
  obtain ⟨k1, k2, k3⟩ := h.obj
  exact EnAt.of ⟨k1, k2, by simp [setHp, va_up, hne, k3]⟩ (by simp [setHp, va_up]) h.2.2
section EMP
variable {e r : Nat} {n x : Int32} {Q : Out → Hp → Prop} {bc bs : Nat}
theorem empty_loop : ∀ (m j : Nat) (hp : Hp) (g : Nat → Int32), j + m = 48 → EnAt hp e r g n →
    (Go kX4_empty 7 [.ref e, .int x, .int (Int32.ofNat j)] [] bc bs hp Q ↔ Go kX4_empty 26 [.ref e, .int x, .int 48] [] bc bs (setHp hp r (.inl (0, 48, .inl (fun t => if j ≤ t ∧ t < 48 then -1 else g t)))) Q) := by
  intro m
  induction m with
  | zero =>
    intro j hp g hj h
    obtain rfl : j = 48 := by omega
    have hg : (fun t => if 48 ≤ t ∧ t < 48 then -1 else g t) = g := by
      funext t
      rw [if_neg (by omega)]
    rw [hg, set_self h.2.1]
    have h48 : Int32.ofNat 48 = 48 := rfl
    simp only [sX4_empty_7, sX4_empty_8, sX4_empty_10, h48, Int32.le_refl, forall_const, not_true_eq_false, false_implies, and_true]
  | succ m ih =>
    intro j hp g hj h
    have hlt : ¬ (48 : Int32) ≤ Int32.ofNat j := fun h9 => by
      have := (i_le (a := 48) (b := j) (by omega) (by omega)).mp h9
      omega
    have hin : vp_in (Int32.ofNat j) 48 := i_in (by omega) (by omega)
    have hnat : (Int32.ofNat j).toNatClampNeg = j := i_nat (by omega)
    have hc : (Value.int x).category = 1 := rfl
    have hw : ∀ K : Hp → Prop, WrA hp r 0 (Int32.ofNat j) (-1) K ↔ K (setHp hp r (.inl (0, 48, .inl (upd g j (-1))))) := by
      intro K
      unfold WrA
      rw [h.2.1]
      simp only [hin, hnat, h.2.2.1, h.2.2.2, and_self, true_and]
    have hrd : ∀ K : Value → Prop, RdF hp e 4 0 K ↔ K (.ref r) := by
      intro K
      unfold RdF
      rw [h.1]
      rfl
    have step := ih (j + 1) (setHp hp r (.inl (0, 48, .inl (upd g j (-1))))) (upd g j (-1)) (by omega) h.setR
    rw [set_set] at step
    have hg : (fun t => if j + 1 ≤ t ∧ t < 48 then -1 else upd g j (-1) t) = (fun t => if j ≤ t ∧ t < 48 then -1 else g t) := by
      funext t
      unfold upd
      by_cases h1 : t = j
      · subst h1; simp; omega
      · have : (j + 1 ≤ t ∧ t < 48) ↔ (j ≤ t ∧ t < 48) := by omega
        simp only [this, h1, if_false]
    rw [hg] at step
    rw [← step]
    simp only [sX4_empty_7, sX4_empty_8, sX4_empty_10, hlt, false_implies, not_false_eq_true, forall_const, true_and, sX4_empty_13, sX4_empty_14, hrd, sX4_empty_17, sX4_empty_18, sX4_empty_19, hw, sX4_empty_20 hc, sX4_empty_23, i_succ]
theorem enPut_ne {hp : Hp} {e r : Nat} {g : Nat → Int32} {n : Int32} (h : e ≠ r) : setHp (setHp hp r (.inl (0, 48, .inl g))) e (.inr (4, [.ref r, .int n])) = enPut hp e r g n := by
  unfold enPut setHp va_up
  simp only [Prod.mk.injEq, true_and]
  funext j
  by_cases h1 : j = e
  · subst h1; simp [h]
  · simp [h1]
theorem empty_c {hp : Hp} {g : Nat → Int32} (h : EnAt hp e r g n) : Call kX4_empty [.ref e] hp Q ↔ Q (.inl (some (.int n))) (enPut hp e r (fun t => if t < 48 then -1 else g t) 0) := by
  have hc0 : (Value.ref e).category = 1 := rfl
  have hc : (Value.int n).category = 1 := rfl
  have hrd : ∀ K : Value → Prop, RdF hp e 4 1 K ↔ K (.int n) := by
    intro K
    unfold RdF
    rw [h.1]
    rfl
  have hl := empty_loop (x := n) (Q := Q) (bc := 0) (bs := 0) 48 0 hp g rfl h
  have hg : (fun t => if 0 ≤ t ∧ t < 48 then -1 else g t) = (fun t => if t < 48 then (-1 : Int32) else g t) := by
    funext t
    simp
  rw [hg] at hl
  have h2 : EnAt (setHp hp r (.inl (0, 48, .inl (fun t => if t < 48 then -1 else g t)))) e r (fun t => if t < 48 then -1 else g t) n := h.setR
  have hw : ∀ K : Hp → Prop, WrF (setHp hp r (.inl (0, 48, .inl (fun t => if t < 48 then -1 else g t)))) e 4 1 (.int 0) K ↔ K (enPut hp e r (fun t => if t < 48 then -1 else g t) 0) := by
    intro K
    unfold WrF
    rw [h2.1]
    simp only [List.set_cons_succ, List.set_cons_zero, List.length_cons, List.length_nil, enPut_ne h.ne]
    simp
  have h0 : Int32.ofNat 0 = 0 := rfl
  rw [h0] at hl
  simp only [eX4_empty, sX4_empty_0, sX4_empty_1, hrd, sX4_empty_4 hc0, sX4_empty_5, sX4_empty_6 hc, hl, sX4_empty_26, sX4_empty_27, sX4_empty_28, hw, sX4_empty_31, sX4_empty_32]
end EMP
