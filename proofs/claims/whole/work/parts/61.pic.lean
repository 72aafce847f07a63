/-! The model and the whole picture. Laid by gen/sto.py. -/
/-- an entry as the model writes it -/
def encE (v : Int32) : Int32 := if 256 ≤ v then v + 744 else v
def cellM (M : St) (o : Nat) : va_E :=
  if o = 0 then .inr (8, [.int (M 46 0 0 0), .int (M 0 0 0 0), .int (M 2 0 0 0), .int (M 5 0 0 0), .int (M 10 0 0 0), .int (M 11 0 0 0), .int (M 12 0 0 0), .ref 307, .ref 308, .ref 309, .ref 310, .ref 311, .ref 312, .ref 313, .ref 314, .ref 315, .ref 316, .ref 317, .ref 318, .ref 319, .ref 320, .ref 321, .ref 322, .ref 323, .ref 324, .ref 325, .ref 326, .ref 327, .ref 328, .ref 329, .ref 330, .ref 331, .ref 332, .ref 333, .ref 334, .ref 335, .ref 336, .ref 337, .ref 338, .ref 339, .int (M 47 0 0 0)])
  else if o = 1 then .inl (0, 12, .inl (fun i => M 1 0 0 i))
  else if o = 2 then .inl (0, 72, .inl (fun i => M 4 (i / 12) 0 (i % 12)))
  else if o = 3 then .inl (0, 6, .inl (fun i => M 3 i 0 0))
  else if o = 4 then .inl (0, 8, .inl (fun i => M 6 0 0 i))
  else if o = 5 then .inl (0, 8, .inl (fun i => M 7 0 0 i))
  else if o = 6 then .inl (0, 48, .inl (fun i => encE (M 9 0 0 i)))
  else if o = 7 then .inl (0, 3, .inl (fun i => M 13 i 0 0))
  else if o = 8 then .inl (0, 3, .inl (fun i => M 14 i 0 0))
  else if o = 9 then .inl (0, 3, .inl (fun i => M 15 i 0 0))
  else if o = 10 then .inl (0, 3, .inl (fun i => M 16 i 0 0))
  else if o = 11 then .inl (0, 3, .inl (fun i => M 17 i 0 0))
  else if o = 12 then .inl (0, 1728, .inl (fun i => encE (M 29 (i / 576) (i / 48 % 12) (i % 48))))
  else if o = 13 then .inl (0, 36, .inl (fun i => M 22 (i / 12) (i % 12) 0))
  else if o = 14 then .inl (0, 36, .inl (fun i => M 23 (i / 12) (i % 12) 0))
  else if o = 15 then .inl (0, 36, .inl (fun i => M 24 (i / 12) (i % 12) 0))
  else if o = 16 then .inl (0, 36, .inl (fun i => M 25 (i / 12) (i % 12) 0))
  else if o = 17 then .inl (0, 36, .inl (fun i => M 26 (i / 12) (i % 12) 0))
  else if o = 18 then .inl (2, 36, .inl (fun i => M 27 (i / 12) (i % 12) 0))
  else if o = 19 then .inl (2, 144, .inl (fun i => M 40 (i / 48) 0 (i % 48)))
  else if o = 20 then .inl (2, 48, .inl (fun i => M 44 0 0 i))
  else if o = 21 then .inl (0, 144, .inl (fun i => M 19 (i / 48) 0 (i % 48)))
  else if o = 22 then .inl (0, 144, .inl (fun i => M 20 (i / 48) 0 (i % 48)))
  else if o = 23 then .inl (0, 144, .inl (fun i => M 41 (i / 48) 0 (i % 48)))
  else if o = 24 then .inl (1, 144, .inr (.inr (.inl (fun i => (M 18 (i / 48) 0 (i % 48)).toUInt32))))
  else if o = 25 then .inl (1, 48, .inr (.inr (.inl (fun i => (M 45 0 0 i).toUInt32))))
  else if o = 26 then .inl (0, 4, .inl (fun i => M 30 i 0 0))
  else if o = 27 then .inl (0, 4, .inl (fun i => M 31 i 0 0))
  else if o = 28 then .inl (0, 4, .inl (fun i => M 32 i 0 0))
  else if o = 29 then .inl (0, 4, .inl (fun i => M 33 i 0 0))
  else if o = 30 then .inl (0, 4, .inl (fun i => M 34 i 0 0))
  else if o = 31 then .inl (0, 4, .inl (fun i => M 35 i 0 0))
  else if o = 32 then .inl (0, 4, .inl (fun i => M 43 i 0 0))
  else if o = 33 then .inl (2, 4, .inl (fun i => M 42 i 0 0))
  else .inr (8, [])
def H (z : Ev) (S : Nat → St) (M : St) : Hp := (341, fun a => if 2 ≤ a ∧ a < 154 then cellD 2 (S 2) (a - 2) else if 154 ≤ a ∧ a < 306 then cellD 154 (S 154) (a - 154) else if 306 ≤ a ∧ a < 340 then cellM M (a - 306) else cellE z a)
section PIC
variable {z : Ev} {S : Nat → St} {M A : St} {b : Nat}
theorem isB.le (hb : isB b) : 1 ≤ b ∧ b + 152 ≤ 342 := by
  rcases hb with h | h <;> omega
theorem H_1 : (H z S M).1 = 341 := rfl
theorem H_D {o : Nat} (hb : isB b) (ho : o < 152) : (H z S M).2 (b + o) = cellD b (S b) o := by
  unfold H
  rcases hb with h | h
  · subst h
    show (if 2 ≤ 2 + o ∧ 2 + o < 154 then _ else _) = _
    rw [if_pos (by omega), Nat.add_sub_cancel_left]
  · subst h
    show (if 2 ≤ 154 + o ∧ 154 + o < 154 then _ else _) = _
    rw [if_neg (by omega), if_pos (by omega), Nat.add_sub_cancel_left]
theorem H_D0 (hb : isB b) : (H z S M).2 b = cellD b (S b) 0 := H_D (o := 0) hb (by omega)
theorem H_M {o : Nat} (ho : o < 34) : (H z S M).2 (306 + o) = cellM M o := by
  unfold H
  show (if 2 ≤ 306 + o ∧ 306 + o < 154 then _ else _) = _
  rw [if_neg (by omega), if_neg (by omega), if_pos (by omega), Nat.add_sub_cancel_left]
theorem H_E {a : Nat} (ha : a = 0 ∨ a = 1 ∨ a = 340 ∨ a = 341) : (H z S M).2 a = cellE z a := by
  unfold H
  show (if 2 ≤ a ∧ a < 154 then _ else _) = _
  rw [if_neg (by omega), if_neg (by omega), if_neg (by omega)]
theorem up_self : va_up S b (S b) = S := by
  funext j
  unfold va_up
  split
  · rename_i h; rw [h]
  · rfl
theorem up_at {A : St} : va_up S b A b = A := by simp [va_up]
theorem up_up {A B : St} : va_up (va_up S b A) b B = va_up S b B := by
  funext j
  unfold va_up
  split <;> rfl
/-- a desk's cell is written -/
theorem set_D {A : St} {o : Nat} {E : va_E} (hb : isB b) (ho : o < 152) (hE : cellD b A o = E) (hA : ∀ k l c, own k l c ≠ o → own k l c < 152 → A k l c = S b k l c) : setHp (H z S M) (b + o) E = H z (va_up S b A) M := by
  unfold setHp
  have h1 : ∀ o1, o1 < 152 → o1 ≠ o → cellD b A o1 = cellD b (S b) o1 := fun o1 h2 h3 => cellD_congr h2 fun k l c h4 => hA k l c (by omega) (by omega)
  refine Prod.ext rfl (funext fun a => ?_)
  show va_up (H z S M).2 (b + o) E a = (H z (va_up S b A) M).2 a
  unfold va_up
  have hle := hb.le
  by_cases ha : a = b + o
  · subst ha
    rw [if_pos rfl, H_D hb ho, ← hE]
    simp [va_up]
  · rw [if_neg ha]
    by_cases hr : b ≤ a ∧ a < b + 152
    · obtain ⟨o1, rfl⟩ : ∃ o1, a = b + o1 := ⟨a - b, by omega⟩
      rw [H_D hb (by omega), H_D hb (by omega), if_pos rfl]
      exact (h1 o1 (by omega) (by omega)).symm
    · rcases hb with h | h
      · subst h
        unfold H
        have e1 : (if 154 = 2 then A else S 154) = S 154 := if_neg (by decide)
        dsimp only [va_up]
        have hn : ¬ (2 ≤ a ∧ a < 154) := by omega
        simp only [hn, if_false, e1]
      · subst h
        unfold H
        have e1 : (if 2 = 154 then A else S 2) = S 2 := if_neg (by decide)
        dsimp only [va_up]
        have hn : ¬ (154 ≤ a ∧ a < 306) := by omega
        simp only [hn, if_false, e1]
theorem set_D0 {A : St} {E : va_E} (hb : isB b) (hE : cellD b A 0 = E) (hA : ∀ k l c, own k l c ≠ 0 → own k l c < 152 → A k l c = S b k l c) : setHp (H z S M) b E = H z (va_up S b A) M := set_D (o := 0) hb (by omega) hE hA
theorem up4_ne {k l c s : Nat} {v : Int32} {k1 l1 c1 : Nat} (h : own k l c ≠ own k1 l1 c1) : up4 A k l c s v k1 l1 c1 = A k1 l1 c1 := by
  funext s1
  unfold up4
  rw [if_neg]
  rintro ⟨rfl, rfl, rfl, -⟩
  exact h rfl
theorem up4_row {k l c s : Nat} {v : Int32} : up4 A k l c s v k l c = upd (A k l c) s v := by
  funext s1
  unfold up4 upd
  simp
theorem isObj_of {hp : Hp} {a ci : Nat} {fs : List Value} (h : hp.2 a = .inr (ci, fs)) (h1 : 1 ≤ a) (h2 : a ≤ hp.1) : isObj hp a ci = some fs := by
  unfold isObj
  rw [h]
  simp [h1, h2]
theorem RdA_of {hp : Hp} {a t n s : Nat} {f : Nat → Int32} {K : Int32 → Prop} (h : hp.2 a = .inl (t, n, .inl f)) (h1 : 1 ≤ a) (h2 : a ≤ hp.1) (hs : s < n) (hn : n ≤ 65536) : RdA hp a t (Int32.ofNat s) K ↔ K (f s) := by
  unfold RdA
  rw [h]
  have z1 : (Int32.ofNat s).toNatClampNeg = s := i_nat (by omega)
  have z2 : vp_in (Int32.ofNat s) n := i_in hs (by omega)
  simp only [z1, z2, h1, h2, true_and, and_self, or_true]
theorem WrA_of {hp : Hp} {a t n s : Nat} {x : Int32} {f : Nat → Int32} {K : Hp → Prop} (h : hp.2 a = .inl (t, n, .inl f)) (h1 : 1 ≤ a) (h2 : a ≤ hp.1) (hs : s < n) (hn : n ≤ 65536) : WrA hp a t (Int32.ofNat s) x K ↔ K (setHp hp a (.inl (t, n, .inl (upd f s x)))) := by
  unfold WrA
  rw [h]
  have z1 : (Int32.ofNat s).toNatClampNeg = s := i_nat (by omega)
  have z2 : vp_in (Int32.ofNat s) n := i_in hs (by omega)
  simp only [z1, z2, h1, h2, true_and, and_self]
theorem RdN_of {hp : Hp} {a n s : Nat} {f : Nat → UInt32} {K : UInt32 → Prop} (h : hp.2 a = .inl (1, n, .inr (.inr (.inl f)))) (h1 : 1 ≤ a) (h2 : a ≤ hp.1) (hs : s < n) (hn : n ≤ 65536) : RdN hp a (Int32.ofNat s) K ↔ K (f s) := by
  unfold RdN
  rw [h]
  have z1 : (Int32.ofNat s).toNatClampNeg = s := i_nat (by omega)
  have z2 : vp_in (Int32.ofNat s) n := i_in hs (by omega)
  simp only [z1, z2, h1, h2, true_and, and_self]
theorem WrN_of {hp : Hp} {a n s : Nat} {x : UInt32} {f : Nat → UInt32} {K : Hp → Prop} (h : hp.2 a = .inl (1, n, .inr (.inr (.inl f)))) (h1 : 1 ≤ a) (h2 : a ≤ hp.1) (hs : s < n) (hn : n ≤ 65536) : WrN hp a (Int32.ofNat s) x K ↔ K (setHp hp a (.inl (1, n, .inr (.inr (.inl (vf_upd f s x)))))) := by
  unfold WrN
  rw [h]
  have z1 : (Int32.ofNat s).toNatClampNeg = s := i_nat (by omega)
  have z2 : vp_in (Int32.ofNat s) n := i_in hs (by omega)
  simp only [z1, z2, h1, h2, true_and, and_self]
theorem RdQ_of {hp : Hp} {a t n s : Nat} {f : Nat → Nat} {K : Nat → Prop} (h : hp.2 a = .inl (t, n, .inr (.inr (.inr (.inr (qA n f)))))) (ht : 5 ≤ t ∧ t ≤ 8) (h1 : 1 ≤ a) (h2 : a ≤ hp.1) (hs : s < n) (hn : n ≤ 65536) : RdQ hp a (Int32.ofNat s) K ↔ K (f s) := by
  unfold RdQ
  rw [h]
  have z1 : (Int32.ofNat s).toNatClampNeg = s := i_nat (by omega)
  have z2 : vp_in (Int32.ofNat s) n := i_in hs (by omega)
  have z3 : qA n f s = some (f s) := by unfold qA; rw [if_pos hs]
  simp only [z1, z2, z3, h1, h2, ht, true_and, and_self]

theorem ob_D (hb : isB b) : isObj (H z S M) b 2 = some [.ref (aLines b), .int ((S b) 0 0 0 0), .ref (aGroups b), .int ((S b) 2 0 0 0), .ref (aPal b), .ref (aPrg b), .ref (aLists b), .ref (aEffs b), .int ((S b) 10 0 0 0), .int ((S b) 11 0 0 0), .int ((S b) 12 0 0 0)] := isObj_of ((H_D0 hb).trans (cell_D)) (by have := hb.le; omega) (by rw [H_1]; have := hb.le; omega)
theorem rc_D (hb : isB b) : Rcv (H z S M) b 2 := by unfold Rcv; rw [ob_D hb]; rfl
theorem rd_D_0 {K : Value → Prop} (hb : isB b) : RdF (H z S M) b 2 0 K ↔ K (.ref (aLines b)) := by unfold RdF; rw [ob_D hb]; exact Iff.rfl
theorem rd_D_1 {K : Value → Prop} (hb : isB b) : RdF (H z S M) b 2 1 K ↔ K (.int (S b 0 0 0 0)) := by unfold RdF; rw [ob_D hb]; exact Iff.rfl
theorem wr_D_1 {K : Hp → Prop} {v : Int32} (hb : isB b) : WrF (H z S M) b 2 1 (.int v) K ↔ K (H z (va_up S b (up4 (S b) 0 0 0 0 v)) M) := by
  unfold WrF
  rw [ob_D hb]
  have E : setHp (H z S M) b (.inr (2, [.ref (aLines b), .int v, .ref (aGroups b), .int (S b 2 0 0 0), .ref (aPal b), .ref (aPrg b), .ref (aLists b), .ref (aEffs b), .int (S b 10 0 0 0), .int (S b 11 0 0 0), .int (S b 12 0 0 0)])) = H z (va_up S b (up4 (S b) 0 0 0 0 v)) M := set_D0 hb ((cell_D).trans (by simp [up4])) (fun k1 l1 c1 h1 h2 => up4_ne (fun h3 => h1 (h3.symm.trans (by simp only [own]))))
  exact ⟨fun h => (congrArg K E).mp h.2, fun h => ⟨Nat.le_of_ble_eq_true rfl, (congrArg K E).mpr h⟩⟩
theorem rd_D_2 {K : Value → Prop} (hb : isB b) : RdF (H z S M) b 2 2 K ↔ K (.ref (aGroups b)) := by unfold RdF; rw [ob_D hb]; exact Iff.rfl
theorem rd_D_3 {K : Value → Prop} (hb : isB b) : RdF (H z S M) b 2 3 K ↔ K (.int (S b 2 0 0 0)) := by unfold RdF; rw [ob_D hb]; exact Iff.rfl
theorem wr_D_3 {K : Hp → Prop} {v : Int32} (hb : isB b) : WrF (H z S M) b 2 3 (.int v) K ↔ K (H z (va_up S b (up4 (S b) 2 0 0 0 v)) M) := by
  unfold WrF
  rw [ob_D hb]
  have E : setHp (H z S M) b (.inr (2, [.ref (aLines b), .int (S b 0 0 0 0), .ref (aGroups b), .int v, .ref (aPal b), .ref (aPrg b), .ref (aLists b), .ref (aEffs b), .int (S b 10 0 0 0), .int (S b 11 0 0 0), .int (S b 12 0 0 0)])) = H z (va_up S b (up4 (S b) 2 0 0 0 v)) M := set_D0 hb ((cell_D).trans (by simp [up4])) (fun k1 l1 c1 h1 h2 => up4_ne (fun h3 => h1 (h3.symm.trans (by simp only [own]))))
  exact ⟨fun h => (congrArg K E).mp h.2, fun h => ⟨Nat.le_of_ble_eq_true rfl, (congrArg K E).mpr h⟩⟩
theorem rd_D_4 {K : Value → Prop} (hb : isB b) : RdF (H z S M) b 2 4 K ↔ K (.ref (aPal b)) := by unfold RdF; rw [ob_D hb]; exact Iff.rfl
theorem rd_D_5 {K : Value → Prop} (hb : isB b) : RdF (H z S M) b 2 5 K ↔ K (.ref (aPrg b)) := by unfold RdF; rw [ob_D hb]; exact Iff.rfl
theorem rd_D_6 {K : Value → Prop} (hb : isB b) : RdF (H z S M) b 2 6 K ↔ K (.ref (aLists b)) := by unfold RdF; rw [ob_D hb]; exact Iff.rfl
theorem rd_D_7 {K : Value → Prop} (hb : isB b) : RdF (H z S M) b 2 7 K ↔ K (.ref (aEffs b)) := by unfold RdF; rw [ob_D hb]; exact Iff.rfl
theorem rd_D_8 {K : Value → Prop} (hb : isB b) : RdF (H z S M) b 2 8 K ↔ K (.int (S b 10 0 0 0)) := by unfold RdF; rw [ob_D hb]; exact Iff.rfl
theorem wr_D_8 {K : Hp → Prop} {v : Int32} (hb : isB b) : WrF (H z S M) b 2 8 (.int v) K ↔ K (H z (va_up S b (up4 (S b) 10 0 0 0 v)) M) := by
  unfold WrF
  rw [ob_D hb]
  have E : setHp (H z S M) b (.inr (2, [.ref (aLines b), .int (S b 0 0 0 0), .ref (aGroups b), .int (S b 2 0 0 0), .ref (aPal b), .ref (aPrg b), .ref (aLists b), .ref (aEffs b), .int v, .int (S b 11 0 0 0), .int (S b 12 0 0 0)])) = H z (va_up S b (up4 (S b) 10 0 0 0 v)) M := set_D0 hb ((cell_D).trans (by simp [up4])) (fun k1 l1 c1 h1 h2 => up4_ne (fun h3 => h1 (h3.symm.trans (by simp only [own]))))
  exact ⟨fun h => (congrArg K E).mp h.2, fun h => ⟨Nat.le_of_ble_eq_true rfl, (congrArg K E).mpr h⟩⟩
theorem rd_D_9 {K : Value → Prop} (hb : isB b) : RdF (H z S M) b 2 9 K ↔ K (.int (S b 11 0 0 0)) := by unfold RdF; rw [ob_D hb]; exact Iff.rfl
theorem wr_D_9 {K : Hp → Prop} {v : Int32} (hb : isB b) : WrF (H z S M) b 2 9 (.int v) K ↔ K (H z (va_up S b (up4 (S b) 11 0 0 0 v)) M) := by
  unfold WrF
  rw [ob_D hb]
  have E : setHp (H z S M) b (.inr (2, [.ref (aLines b), .int (S b 0 0 0 0), .ref (aGroups b), .int (S b 2 0 0 0), .ref (aPal b), .ref (aPrg b), .ref (aLists b), .ref (aEffs b), .int (S b 10 0 0 0), .int v, .int (S b 12 0 0 0)])) = H z (va_up S b (up4 (S b) 11 0 0 0 v)) M := set_D0 hb ((cell_D).trans (by simp [up4])) (fun k1 l1 c1 h1 h2 => up4_ne (fun h3 => h1 (h3.symm.trans (by simp only [own]))))
  exact ⟨fun h => (congrArg K E).mp h.2, fun h => ⟨Nat.le_of_ble_eq_true rfl, (congrArg K E).mpr h⟩⟩
theorem rd_D_10 {K : Value → Prop} (hb : isB b) : RdF (H z S M) b 2 10 K ↔ K (.int (S b 12 0 0 0)) := by unfold RdF; rw [ob_D hb]; exact Iff.rfl
theorem wr_D_10 {K : Hp → Prop} {v : Int32} (hb : isB b) : WrF (H z S M) b 2 10 (.int v) K ↔ K (H z (va_up S b (up4 (S b) 12 0 0 0 v)) M) := by
  unfold WrF
  rw [ob_D hb]
  have E : setHp (H z S M) b (.inr (2, [.ref (aLines b), .int (S b 0 0 0 0), .ref (aGroups b), .int (S b 2 0 0 0), .ref (aPal b), .ref (aPrg b), .ref (aLists b), .ref (aEffs b), .int (S b 10 0 0 0), .int (S b 11 0 0 0), .int v])) = H z (va_up S b (up4 (S b) 12 0 0 0 v)) M := set_D0 hb ((cell_D).trans (by simp [up4])) (fun k1 l1 c1 h1 h2 => up4_ne (fun h3 => h1 (h3.symm.trans (by simp only [own]))))
  exact ⟨fun h => (congrArg K E).mp h.2, fun h => ⟨Nat.le_of_ble_eq_true rfl, (congrArg K E).mpr h⟩⟩
theorem ob_Pal (hb : isB b) : isObj (H z S M) (aPal b) 6 = some [.ref (aPalA b), .ref (aPalV b), .int ((S b) 5 0 0 0)] := isObj_of ((H_D hb (by omega)).trans (cell_Pal)) (by have := hb.le; unfold aPal; omega) (by rw [H_1]; have := hb.le; unfold aPal; omega)
theorem rc_Pal (hb : isB b) : Rcv (H z S M) (aPal b) 6 := by unfold Rcv; rw [ob_Pal hb]; rfl
theorem rd_Pal_0 {K : Value → Prop} (hb : isB b) : RdF (H z S M) (aPal b) 6 0 K ↔ K (.ref (aPalA b)) := by unfold RdF; rw [ob_Pal hb]; exact Iff.rfl
theorem rd_Pal_1 {K : Value → Prop} (hb : isB b) : RdF (H z S M) (aPal b) 6 1 K ↔ K (.ref (aPalV b)) := by unfold RdF; rw [ob_Pal hb]; exact Iff.rfl
theorem rd_Pal_2 {K : Value → Prop} (hb : isB b) : RdF (H z S M) (aPal b) 6 2 K ↔ K (.int (S b 5 0 0 0)) := by unfold RdF; rw [ob_Pal hb]; exact Iff.rfl
theorem wr_Pal_2 {K : Hp → Prop} {v : Int32} (hb : isB b) : WrF (H z S M) (aPal b) 6 2 (.int v) K ↔ K (H z (va_up S b (up4 (S b) 5 0 0 0 v)) M) := by
  unfold WrF
  rw [ob_Pal hb]
  have E : setHp (H z S M) (aPal b) (.inr (6, [.ref (aPalA b), .ref (aPalV b), .int v])) = H z (va_up S b (up4 (S b) 5 0 0 0 v)) M := set_D (o := 3) hb (by omega) ((cell_Pal).trans (by simp [up4])) (fun k1 l1 c1 h1 h2 => up4_ne (fun h3 => h1 (h3.symm.trans (by simp only [own]))))
  exact ⟨fun h => (congrArg K E).mp h.2, fun h => ⟨Nat.le_of_ble_eq_true rfl, (congrArg K E).mpr h⟩⟩
theorem ob_Prg (hb : isB b) : isObj (H z S M) (aPrg b) 4 = some [.ref (aPrgR b), .int ((S b) 8 0 0 0)] := isObj_of ((H_D hb (by omega)).trans (cell_Prg)) (by have := hb.le; unfold aPrg; omega) (by rw [H_1]; have := hb.le; unfold aPrg; omega)
theorem rc_Prg (hb : isB b) : Rcv (H z S M) (aPrg b) 4 := by unfold Rcv; rw [ob_Prg hb]; rfl
theorem rd_Prg_0 {K : Value → Prop} (hb : isB b) : RdF (H z S M) (aPrg b) 4 0 K ↔ K (.ref (aPrgR b)) := by unfold RdF; rw [ob_Prg hb]; exact Iff.rfl
theorem rd_Prg_1 {K : Value → Prop} (hb : isB b) : RdF (H z S M) (aPrg b) 4 1 K ↔ K (.int (S b 8 0 0 0)) := by unfold RdF; rw [ob_Prg hb]; exact Iff.rfl
theorem wr_Prg_1 {K : Hp → Prop} {v : Int32} (hb : isB b) : WrF (H z S M) (aPrg b) 4 1 (.int v) K ↔ K (H z (va_up S b (up4 (S b) 8 0 0 0 v)) M) := by
  unfold WrF
  rw [ob_Prg hb]
  have E : setHp (H z S M) (aPrg b) (.inr (4, [.ref (aPrgR b), .int v])) = H z (va_up S b (up4 (S b) 8 0 0 0 v)) M := set_D (o := 6) hb (by omega) ((cell_Prg).trans (by simp [up4])) (fun k1 l1 c1 h1 h2 => up4_ne (fun h3 => h1 (h3.symm.trans (by simp only [own]))))
  exact ⟨fun h => (congrArg K E).mp h.2, fun h => ⟨Nat.le_of_ble_eq_true rfl, (congrArg K E).mpr h⟩⟩
theorem ob_Grp {g : Nat} (hb : isB b) (hg : g < 6) : isObj (H z S M) (aGrp b g) 5 = some [.ref (aGrpL b g), .int ((S b) 3 g 0 0)] := isObj_of ((H_D hb (by omega)).trans (cell_Grp hg)) (by have := hb.le; unfold aGrp; omega) (by rw [H_1]; have := hb.le; unfold aGrp; omega)
theorem rc_Grp {g : Nat} (hb : isB b) (hg : g < 6) : Rcv (H z S M) (aGrp b g) 5 := by unfold Rcv; rw [ob_Grp hb hg]; rfl
theorem rd_Grp_0 {g : Nat} {K : Value → Prop} (hb : isB b) (hg : g < 6) : RdF (H z S M) (aGrp b g) 5 0 K ↔ K (.ref (aGrpL b g)) := by unfold RdF; rw [ob_Grp hb hg]; exact Iff.rfl
theorem rd_Grp_1 {g : Nat} {K : Value → Prop} (hb : isB b) (hg : g < 6) : RdF (H z S M) (aGrp b g) 5 1 K ↔ K (.int (S b 3 g 0 0)) := by unfold RdF; rw [ob_Grp hb hg]; exact Iff.rfl
theorem wr_Grp_1 {g : Nat} {K : Hp → Prop} {v : Int32} (hb : isB b) (hg : g < 6) : WrF (H z S M) (aGrp b g) 5 1 (.int v) K ↔ K (H z (va_up S b (up4 (S b) 3 g 0 0 v)) M) := by
  unfold WrF
  rw [ob_Grp hb hg]
  have E : setHp (H z S M) (aGrp b g) (.inr (5, [.ref (aGrpL b g), .int v])) = H z (va_up S b (up4 (S b) 3 g 0 0 v)) M := set_D (o := 10 + 2 * g) hb (by omega) ((cell_Grp hg).trans (by simp [up4])) (fun k1 l1 c1 h1 h2 => up4_ne (fun h3 => h1 (h3.symm.trans (by simp only [own]))))
  exact ⟨fun h => (congrArg K E).mp h.2, fun h => ⟨Nat.le_of_ble_eq_true rfl, (congrArg K E).mpr h⟩⟩
theorem ob_L {l : Nat} (hb : isB b) (hl : l < 3) : isObj (H z S M) (aL b l) 1 = some [.ref (aCues b l), .int ((S b) 13 l 0 0), .int ((S b) 14 l 0 0), .int ((S b) 15 l 0 0), .int ((S b) 16 l 0 0), .int ((S b) 17 l 0 0), .ref (aFr b l), .ref (aSt b l), .ref (aLe b l), .ref (aOr b l)] := isObj_of ((H_D hb (by omega)).trans (cell_L hl)) (by have := hb.le; unfold aL; omega) (by rw [H_1]; have := hb.le; unfold aL; omega)
theorem rc_L {l : Nat} (hb : isB b) (hl : l < 3) : Rcv (H z S M) (aL b l) 1 := by unfold Rcv; rw [ob_L hb hl]; rfl
theorem rd_L_0 {l : Nat} {K : Value → Prop} (hb : isB b) (hl : l < 3) : RdF (H z S M) (aL b l) 1 0 K ↔ K (.ref (aCues b l)) := by unfold RdF; rw [ob_L hb hl]; exact Iff.rfl
theorem rd_L_1 {l : Nat} {K : Value → Prop} (hb : isB b) (hl : l < 3) : RdF (H z S M) (aL b l) 1 1 K ↔ K (.int (S b 13 l 0 0)) := by unfold RdF; rw [ob_L hb hl]; exact Iff.rfl
theorem wr_L_1 {l : Nat} {K : Hp → Prop} {v : Int32} (hb : isB b) (hl : l < 3) : WrF (H z S M) (aL b l) 1 1 (.int v) K ↔ K (H z (va_up S b (up4 (S b) 13 l 0 0 v)) M) := by
  unfold WrF
  rw [ob_L hb hl]
  have E : setHp (H z S M) (aL b l) (.inr (1, [.ref (aCues b l), .int v, .int (S b 14 l 0 0), .int (S b 15 l 0 0), .int (S b 16 l 0 0), .int (S b 17 l 0 0), .ref (aFr b l), .ref (aSt b l), .ref (aLe b l), .ref (aOr b l)])) = H z (va_up S b (up4 (S b) 13 l 0 0 v)) M := set_D (o := 22 + 42 * l) hb (by omega) ((cell_L hl).trans (by simp [up4])) (fun k1 l1 c1 h1 h2 => up4_ne (fun h3 => h1 (h3.symm.trans (by simp only [own]))))
  exact ⟨fun h => (congrArg K E).mp h.2, fun h => ⟨Nat.le_of_ble_eq_true rfl, (congrArg K E).mpr h⟩⟩
theorem rd_L_2 {l : Nat} {K : Value → Prop} (hb : isB b) (hl : l < 3) : RdF (H z S M) (aL b l) 1 2 K ↔ K (.int (S b 14 l 0 0)) := by unfold RdF; rw [ob_L hb hl]; exact Iff.rfl
theorem wr_L_2 {l : Nat} {K : Hp → Prop} {v : Int32} (hb : isB b) (hl : l < 3) : WrF (H z S M) (aL b l) 1 2 (.int v) K ↔ K (H z (va_up S b (up4 (S b) 14 l 0 0 v)) M) := by
  unfold WrF
  rw [ob_L hb hl]
  have E : setHp (H z S M) (aL b l) (.inr (1, [.ref (aCues b l), .int (S b 13 l 0 0), .int v, .int (S b 15 l 0 0), .int (S b 16 l 0 0), .int (S b 17 l 0 0), .ref (aFr b l), .ref (aSt b l), .ref (aLe b l), .ref (aOr b l)])) = H z (va_up S b (up4 (S b) 14 l 0 0 v)) M := set_D (o := 22 + 42 * l) hb (by omega) ((cell_L hl).trans (by simp [up4])) (fun k1 l1 c1 h1 h2 => up4_ne (fun h3 => h1 (h3.symm.trans (by simp only [own]))))
  exact ⟨fun h => (congrArg K E).mp h.2, fun h => ⟨Nat.le_of_ble_eq_true rfl, (congrArg K E).mpr h⟩⟩
theorem rd_L_3 {l : Nat} {K : Value → Prop} (hb : isB b) (hl : l < 3) : RdF (H z S M) (aL b l) 1 3 K ↔ K (.int (S b 15 l 0 0)) := by unfold RdF; rw [ob_L hb hl]; exact Iff.rfl
theorem wr_L_3 {l : Nat} {K : Hp → Prop} {v : Int32} (hb : isB b) (hl : l < 3) : WrF (H z S M) (aL b l) 1 3 (.int v) K ↔ K (H z (va_up S b (up4 (S b) 15 l 0 0 v)) M) := by
  unfold WrF
  rw [ob_L hb hl]
  have E : setHp (H z S M) (aL b l) (.inr (1, [.ref (aCues b l), .int (S b 13 l 0 0), .int (S b 14 l 0 0), .int v, .int (S b 16 l 0 0), .int (S b 17 l 0 0), .ref (aFr b l), .ref (aSt b l), .ref (aLe b l), .ref (aOr b l)])) = H z (va_up S b (up4 (S b) 15 l 0 0 v)) M := set_D (o := 22 + 42 * l) hb (by omega) ((cell_L hl).trans (by simp [up4])) (fun k1 l1 c1 h1 h2 => up4_ne (fun h3 => h1 (h3.symm.trans (by simp only [own]))))
  exact ⟨fun h => (congrArg K E).mp h.2, fun h => ⟨Nat.le_of_ble_eq_true rfl, (congrArg K E).mpr h⟩⟩
theorem rd_L_4 {l : Nat} {K : Value → Prop} (hb : isB b) (hl : l < 3) : RdF (H z S M) (aL b l) 1 4 K ↔ K (.int (S b 16 l 0 0)) := by unfold RdF; rw [ob_L hb hl]; exact Iff.rfl
theorem wr_L_4 {l : Nat} {K : Hp → Prop} {v : Int32} (hb : isB b) (hl : l < 3) : WrF (H z S M) (aL b l) 1 4 (.int v) K ↔ K (H z (va_up S b (up4 (S b) 16 l 0 0 v)) M) := by
  unfold WrF
  rw [ob_L hb hl]
  have E : setHp (H z S M) (aL b l) (.inr (1, [.ref (aCues b l), .int (S b 13 l 0 0), .int (S b 14 l 0 0), .int (S b 15 l 0 0), .int v, .int (S b 17 l 0 0), .ref (aFr b l), .ref (aSt b l), .ref (aLe b l), .ref (aOr b l)])) = H z (va_up S b (up4 (S b) 16 l 0 0 v)) M := set_D (o := 22 + 42 * l) hb (by omega) ((cell_L hl).trans (by simp [up4])) (fun k1 l1 c1 h1 h2 => up4_ne (fun h3 => h1 (h3.symm.trans (by simp only [own]))))
  exact ⟨fun h => (congrArg K E).mp h.2, fun h => ⟨Nat.le_of_ble_eq_true rfl, (congrArg K E).mpr h⟩⟩
theorem rd_L_5 {l : Nat} {K : Value → Prop} (hb : isB b) (hl : l < 3) : RdF (H z S M) (aL b l) 1 5 K ↔ K (.int (S b 17 l 0 0)) := by unfold RdF; rw [ob_L hb hl]; exact Iff.rfl
theorem wr_L_5 {l : Nat} {K : Hp → Prop} {v : Int32} (hb : isB b) (hl : l < 3) : WrF (H z S M) (aL b l) 1 5 (.int v) K ↔ K (H z (va_up S b (up4 (S b) 17 l 0 0 v)) M) := by
  unfold WrF
  rw [ob_L hb hl]
  have E : setHp (H z S M) (aL b l) (.inr (1, [.ref (aCues b l), .int (S b 13 l 0 0), .int (S b 14 l 0 0), .int (S b 15 l 0 0), .int (S b 16 l 0 0), .int v, .ref (aFr b l), .ref (aSt b l), .ref (aLe b l), .ref (aOr b l)])) = H z (va_up S b (up4 (S b) 17 l 0 0 v)) M := set_D (o := 22 + 42 * l) hb (by omega) ((cell_L hl).trans (by simp [up4])) (fun k1 l1 c1 h1 h2 => up4_ne (fun h3 => h1 (h3.symm.trans (by simp only [own]))))
  exact ⟨fun h => (congrArg K E).mp h.2, fun h => ⟨Nat.le_of_ble_eq_true rfl, (congrArg K E).mpr h⟩⟩
theorem rd_L_6 {l : Nat} {K : Value → Prop} (hb : isB b) (hl : l < 3) : RdF (H z S M) (aL b l) 1 6 K ↔ K (.ref (aFr b l)) := by unfold RdF; rw [ob_L hb hl]; exact Iff.rfl
theorem rd_L_7 {l : Nat} {K : Value → Prop} (hb : isB b) (hl : l < 3) : RdF (H z S M) (aL b l) 1 7 K ↔ K (.ref (aSt b l)) := by unfold RdF; rw [ob_L hb hl]; exact Iff.rfl
theorem rd_L_8 {l : Nat} {K : Value → Prop} (hb : isB b) (hl : l < 3) : RdF (H z S M) (aL b l) 1 8 K ↔ K (.ref (aLe b l)) := by unfold RdF; rw [ob_L hb hl]; exact Iff.rfl
theorem rd_L_9 {l : Nat} {K : Value → Prop} (hb : isB b) (hl : l < 3) : RdF (H z S M) (aL b l) 1 9 K ↔ K (.ref (aOr b l)) := by unfold RdF; rw [ob_L hb hl]; exact Iff.rfl
theorem ob_Cue {l : Nat} {c : Nat} (hb : isB b) (hl : l < 3) (hc : c < 12) : isObj (H z S M) (aCue b l c) 0 = some [.ref (aEnt b l c), .int ((S b) 22 l c 0), .int ((S b) 23 l c 0), .int ((S b) 24 l c 0), .int ((S b) 25 l c 0), .int ((S b) 26 l c 0), .int ((S b) 27 l c 0)] := isObj_of ((H_D hb (by omega)).trans (cell_Cue hl hc)) (by have := hb.le; unfold aCue; omega) (by rw [H_1]; have := hb.le; unfold aCue; omega)
theorem rc_Cue {l : Nat} {c : Nat} (hb : isB b) (hl : l < 3) (hc : c < 12) : Rcv (H z S M) (aCue b l c) 0 := by unfold Rcv; rw [ob_Cue hb hl hc]; rfl
theorem rd_Cue_0 {l : Nat} {c : Nat} {K : Value → Prop} (hb : isB b) (hl : l < 3) (hc : c < 12) : RdF (H z S M) (aCue b l c) 0 0 K ↔ K (.ref (aEnt b l c)) := by unfold RdF; rw [ob_Cue hb hl hc]; exact Iff.rfl
theorem rd_Cue_1 {l : Nat} {c : Nat} {K : Value → Prop} (hb : isB b) (hl : l < 3) (hc : c < 12) : RdF (H z S M) (aCue b l c) 0 1 K ↔ K (.int (S b 22 l c 0)) := by unfold RdF; rw [ob_Cue hb hl hc]; exact Iff.rfl
theorem wr_Cue_1 {l : Nat} {c : Nat} {K : Hp → Prop} {v : Int32} (hb : isB b) (hl : l < 3) (hc : c < 12) : WrF (H z S M) (aCue b l c) 0 1 (.int v) K ↔ K (H z (va_up S b (up4 (S b) 22 l c 0 v)) M) := by
  unfold WrF
  rw [ob_Cue hb hl hc]
  have E : setHp (H z S M) (aCue b l c) (.inr (0, [.ref (aEnt b l c), .int v, .int (S b 23 l c 0), .int (S b 24 l c 0), .int (S b 25 l c 0), .int (S b 26 l c 0), .int (S b 27 l c 0)])) = H z (va_up S b (up4 (S b) 22 l c 0 v)) M := set_D (o := 28 + 42 * l + 3 * c) hb (by omega) ((cell_Cue hl hc).trans (by simp [up4])) (fun k1 l1 c1 h1 h2 => up4_ne (fun h3 => h1 (h3.symm.trans (by simp only [own]))))
  exact ⟨fun h => (congrArg K E).mp h.2, fun h => ⟨Nat.le_of_ble_eq_true rfl, (congrArg K E).mpr h⟩⟩
theorem rd_Cue_2 {l : Nat} {c : Nat} {K : Value → Prop} (hb : isB b) (hl : l < 3) (hc : c < 12) : RdF (H z S M) (aCue b l c) 0 2 K ↔ K (.int (S b 23 l c 0)) := by unfold RdF; rw [ob_Cue hb hl hc]; exact Iff.rfl
theorem wr_Cue_2 {l : Nat} {c : Nat} {K : Hp → Prop} {v : Int32} (hb : isB b) (hl : l < 3) (hc : c < 12) : WrF (H z S M) (aCue b l c) 0 2 (.int v) K ↔ K (H z (va_up S b (up4 (S b) 23 l c 0 v)) M) := by
  unfold WrF
  rw [ob_Cue hb hl hc]
  have E : setHp (H z S M) (aCue b l c) (.inr (0, [.ref (aEnt b l c), .int (S b 22 l c 0), .int v, .int (S b 24 l c 0), .int (S b 25 l c 0), .int (S b 26 l c 0), .int (S b 27 l c 0)])) = H z (va_up S b (up4 (S b) 23 l c 0 v)) M := set_D (o := 28 + 42 * l + 3 * c) hb (by omega) ((cell_Cue hl hc).trans (by simp [up4])) (fun k1 l1 c1 h1 h2 => up4_ne (fun h3 => h1 (h3.symm.trans (by simp only [own]))))
  exact ⟨fun h => (congrArg K E).mp h.2, fun h => ⟨Nat.le_of_ble_eq_true rfl, (congrArg K E).mpr h⟩⟩
theorem rd_Cue_3 {l : Nat} {c : Nat} {K : Value → Prop} (hb : isB b) (hl : l < 3) (hc : c < 12) : RdF (H z S M) (aCue b l c) 0 3 K ↔ K (.int (S b 24 l c 0)) := by unfold RdF; rw [ob_Cue hb hl hc]; exact Iff.rfl
theorem wr_Cue_3 {l : Nat} {c : Nat} {K : Hp → Prop} {v : Int32} (hb : isB b) (hl : l < 3) (hc : c < 12) : WrF (H z S M) (aCue b l c) 0 3 (.int v) K ↔ K (H z (va_up S b (up4 (S b) 24 l c 0 v)) M) := by
  unfold WrF
  rw [ob_Cue hb hl hc]
  have E : setHp (H z S M) (aCue b l c) (.inr (0, [.ref (aEnt b l c), .int (S b 22 l c 0), .int (S b 23 l c 0), .int v, .int (S b 25 l c 0), .int (S b 26 l c 0), .int (S b 27 l c 0)])) = H z (va_up S b (up4 (S b) 24 l c 0 v)) M := set_D (o := 28 + 42 * l + 3 * c) hb (by omega) ((cell_Cue hl hc).trans (by simp [up4])) (fun k1 l1 c1 h1 h2 => up4_ne (fun h3 => h1 (h3.symm.trans (by simp only [own]))))
  exact ⟨fun h => (congrArg K E).mp h.2, fun h => ⟨Nat.le_of_ble_eq_true rfl, (congrArg K E).mpr h⟩⟩
theorem rd_Cue_4 {l : Nat} {c : Nat} {K : Value → Prop} (hb : isB b) (hl : l < 3) (hc : c < 12) : RdF (H z S M) (aCue b l c) 0 4 K ↔ K (.int (S b 25 l c 0)) := by unfold RdF; rw [ob_Cue hb hl hc]; exact Iff.rfl
theorem wr_Cue_4 {l : Nat} {c : Nat} {K : Hp → Prop} {v : Int32} (hb : isB b) (hl : l < 3) (hc : c < 12) : WrF (H z S M) (aCue b l c) 0 4 (.int v) K ↔ K (H z (va_up S b (up4 (S b) 25 l c 0 v)) M) := by
  unfold WrF
  rw [ob_Cue hb hl hc]
  have E : setHp (H z S M) (aCue b l c) (.inr (0, [.ref (aEnt b l c), .int (S b 22 l c 0), .int (S b 23 l c 0), .int (S b 24 l c 0), .int v, .int (S b 26 l c 0), .int (S b 27 l c 0)])) = H z (va_up S b (up4 (S b) 25 l c 0 v)) M := set_D (o := 28 + 42 * l + 3 * c) hb (by omega) ((cell_Cue hl hc).trans (by simp [up4])) (fun k1 l1 c1 h1 h2 => up4_ne (fun h3 => h1 (h3.symm.trans (by simp only [own]))))
  exact ⟨fun h => (congrArg K E).mp h.2, fun h => ⟨Nat.le_of_ble_eq_true rfl, (congrArg K E).mpr h⟩⟩
theorem rd_Cue_5 {l : Nat} {c : Nat} {K : Value → Prop} (hb : isB b) (hl : l < 3) (hc : c < 12) : RdF (H z S M) (aCue b l c) 0 5 K ↔ K (.int (S b 26 l c 0)) := by unfold RdF; rw [ob_Cue hb hl hc]; exact Iff.rfl
theorem wr_Cue_5 {l : Nat} {c : Nat} {K : Hp → Prop} {v : Int32} (hb : isB b) (hl : l < 3) (hc : c < 12) : WrF (H z S M) (aCue b l c) 0 5 (.int v) K ↔ K (H z (va_up S b (up4 (S b) 26 l c 0 v)) M) := by
  unfold WrF
  rw [ob_Cue hb hl hc]
  have E : setHp (H z S M) (aCue b l c) (.inr (0, [.ref (aEnt b l c), .int (S b 22 l c 0), .int (S b 23 l c 0), .int (S b 24 l c 0), .int (S b 25 l c 0), .int v, .int (S b 27 l c 0)])) = H z (va_up S b (up4 (S b) 26 l c 0 v)) M := set_D (o := 28 + 42 * l + 3 * c) hb (by omega) ((cell_Cue hl hc).trans (by simp [up4])) (fun k1 l1 c1 h1 h2 => up4_ne (fun h3 => h1 (h3.symm.trans (by simp only [own]))))
  exact ⟨fun h => (congrArg K E).mp h.2, fun h => ⟨Nat.le_of_ble_eq_true rfl, (congrArg K E).mpr h⟩⟩
theorem rd_Cue_6 {l : Nat} {c : Nat} {K : Value → Prop} (hb : isB b) (hl : l < 3) (hc : c < 12) : RdF (H z S M) (aCue b l c) 0 6 K ↔ K (.int (S b 27 l c 0)) := by unfold RdF; rw [ob_Cue hb hl hc]; exact Iff.rfl
theorem wr_Cue_6 {l : Nat} {c : Nat} {K : Hp → Prop} {v : Int32} (hb : isB b) (hl : l < 3) (hc : c < 12) : WrF (H z S M) (aCue b l c) 0 6 (.int v) K ↔ K (H z (va_up S b (up4 (S b) 27 l c 0 v)) M) := by
  unfold WrF
  rw [ob_Cue hb hl hc]
  have E : setHp (H z S M) (aCue b l c) (.inr (0, [.ref (aEnt b l c), .int (S b 22 l c 0), .int (S b 23 l c 0), .int (S b 24 l c 0), .int (S b 25 l c 0), .int (S b 26 l c 0), .int v])) = H z (va_up S b (up4 (S b) 27 l c 0 v)) M := set_D (o := 28 + 42 * l + 3 * c) hb (by omega) ((cell_Cue hl hc).trans (by simp [up4])) (fun k1 l1 c1 h1 h2 => up4_ne (fun h3 => h1 (h3.symm.trans (by simp only [own]))))
  exact ⟨fun h => (congrArg K E).mp h.2, fun h => ⟨Nat.le_of_ble_eq_true rfl, (congrArg K E).mpr h⟩⟩
theorem ob_Ent {l : Nat} {c : Nat} (hb : isB b) (hl : l < 3) (hc : c < 12) : isObj (H z S M) (aEnt b l c) 4 = some [.ref (aRow b l c), .int ((S b) 28 l c 0)] := isObj_of ((H_D hb (by omega)).trans (cell_Ent hl hc)) (by have := hb.le; unfold aEnt; omega) (by rw [H_1]; have := hb.le; unfold aEnt; omega)
theorem rc_Ent {l : Nat} {c : Nat} (hb : isB b) (hl : l < 3) (hc : c < 12) : Rcv (H z S M) (aEnt b l c) 4 := by unfold Rcv; rw [ob_Ent hb hl hc]; rfl
theorem rd_Ent_0 {l : Nat} {c : Nat} {K : Value → Prop} (hb : isB b) (hl : l < 3) (hc : c < 12) : RdF (H z S M) (aEnt b l c) 4 0 K ↔ K (.ref (aRow b l c)) := by unfold RdF; rw [ob_Ent hb hl hc]; exact Iff.rfl
theorem rd_Ent_1 {l : Nat} {c : Nat} {K : Value → Prop} (hb : isB b) (hl : l < 3) (hc : c < 12) : RdF (H z S M) (aEnt b l c) 4 1 K ↔ K (.int (S b 28 l c 0)) := by unfold RdF; rw [ob_Ent hb hl hc]; exact Iff.rfl
theorem wr_Ent_1 {l : Nat} {c : Nat} {K : Hp → Prop} {v : Int32} (hb : isB b) (hl : l < 3) (hc : c < 12) : WrF (H z S M) (aEnt b l c) 4 1 (.int v) K ↔ K (H z (va_up S b (up4 (S b) 28 l c 0 v)) M) := by
  unfold WrF
  rw [ob_Ent hb hl hc]
  have E : setHp (H z S M) (aEnt b l c) (.inr (4, [.ref (aRow b l c), .int v])) = H z (va_up S b (up4 (S b) 28 l c 0 v)) M := set_D (o := 29 + 42 * l + 3 * c) hb (by omega) ((cell_Ent hl hc).trans (by simp [up4])) (fun k1 l1 c1 h1 h2 => up4_ne (fun h3 => h1 (h3.symm.trans (by simp only [own]))))
  exact ⟨fun h => (congrArg K E).mp h.2, fun h => ⟨Nat.le_of_ble_eq_true rfl, (congrArg K E).mpr h⟩⟩
theorem ob_Eff {e : Nat} (hb : isB b) (he : e < 4) : isObj (H z S M) (aEff b e) 3 = some [.int ((S b) 30 e 0 0), .int ((S b) 31 e 0 0), .int ((S b) 32 e 0 0), .int ((S b) 33 e 0 0), .int ((S b) 34 e 0 0), .int ((S b) 35 e 0 0), .int ((S b) 36 e 0 0)] := isObj_of ((H_D hb (by omega)).trans (cell_Eff he)) (by have := hb.le; unfold aEff; omega) (by rw [H_1]; have := hb.le; unfold aEff; omega)
theorem rc_Eff {e : Nat} (hb : isB b) (he : e < 4) : Rcv (H z S M) (aEff b e) 3 := by unfold Rcv; rw [ob_Eff hb he]; rfl
theorem rd_Eff_0 {e : Nat} {K : Value → Prop} (hb : isB b) (he : e < 4) : RdF (H z S M) (aEff b e) 3 0 K ↔ K (.int (S b 30 e 0 0)) := by unfold RdF; rw [ob_Eff hb he]; exact Iff.rfl
theorem wr_Eff_0 {e : Nat} {K : Hp → Prop} {v : Int32} (hb : isB b) (he : e < 4) : WrF (H z S M) (aEff b e) 3 0 (.int v) K ↔ K (H z (va_up S b (up4 (S b) 30 e 0 0 v)) M) := by
  unfold WrF
  rw [ob_Eff hb he]
  have E : setHp (H z S M) (aEff b e) (.inr (3, [.int v, .int (S b 31 e 0 0), .int (S b 32 e 0 0), .int (S b 33 e 0 0), .int (S b 34 e 0 0), .int (S b 35 e 0 0), .int (S b 36 e 0 0)])) = H z (va_up S b (up4 (S b) 30 e 0 0 v)) M := set_D (o := 148 + e) hb (by omega) ((cell_Eff he).trans (by simp [up4])) (fun k1 l1 c1 h1 h2 => up4_ne (fun h3 => h1 (h3.symm.trans (by simp only [own]))))
  exact ⟨fun h => (congrArg K E).mp h.2, fun h => ⟨Nat.le_of_ble_eq_true rfl, (congrArg K E).mpr h⟩⟩
theorem rd_Eff_1 {e : Nat} {K : Value → Prop} (hb : isB b) (he : e < 4) : RdF (H z S M) (aEff b e) 3 1 K ↔ K (.int (S b 31 e 0 0)) := by unfold RdF; rw [ob_Eff hb he]; exact Iff.rfl
theorem wr_Eff_1 {e : Nat} {K : Hp → Prop} {v : Int32} (hb : isB b) (he : e < 4) : WrF (H z S M) (aEff b e) 3 1 (.int v) K ↔ K (H z (va_up S b (up4 (S b) 31 e 0 0 v)) M) := by
  unfold WrF
  rw [ob_Eff hb he]
  have E : setHp (H z S M) (aEff b e) (.inr (3, [.int (S b 30 e 0 0), .int v, .int (S b 32 e 0 0), .int (S b 33 e 0 0), .int (S b 34 e 0 0), .int (S b 35 e 0 0), .int (S b 36 e 0 0)])) = H z (va_up S b (up4 (S b) 31 e 0 0 v)) M := set_D (o := 148 + e) hb (by omega) ((cell_Eff he).trans (by simp [up4])) (fun k1 l1 c1 h1 h2 => up4_ne (fun h3 => h1 (h3.symm.trans (by simp only [own]))))
  exact ⟨fun h => (congrArg K E).mp h.2, fun h => ⟨Nat.le_of_ble_eq_true rfl, (congrArg K E).mpr h⟩⟩
theorem rd_Eff_2 {e : Nat} {K : Value → Prop} (hb : isB b) (he : e < 4) : RdF (H z S M) (aEff b e) 3 2 K ↔ K (.int (S b 32 e 0 0)) := by unfold RdF; rw [ob_Eff hb he]; exact Iff.rfl
theorem wr_Eff_2 {e : Nat} {K : Hp → Prop} {v : Int32} (hb : isB b) (he : e < 4) : WrF (H z S M) (aEff b e) 3 2 (.int v) K ↔ K (H z (va_up S b (up4 (S b) 32 e 0 0 v)) M) := by
  unfold WrF
  rw [ob_Eff hb he]
  have E : setHp (H z S M) (aEff b e) (.inr (3, [.int (S b 30 e 0 0), .int (S b 31 e 0 0), .int v, .int (S b 33 e 0 0), .int (S b 34 e 0 0), .int (S b 35 e 0 0), .int (S b 36 e 0 0)])) = H z (va_up S b (up4 (S b) 32 e 0 0 v)) M := set_D (o := 148 + e) hb (by omega) ((cell_Eff he).trans (by simp [up4])) (fun k1 l1 c1 h1 h2 => up4_ne (fun h3 => h1 (h3.symm.trans (by simp only [own]))))
  exact ⟨fun h => (congrArg K E).mp h.2, fun h => ⟨Nat.le_of_ble_eq_true rfl, (congrArg K E).mpr h⟩⟩
theorem rd_Eff_3 {e : Nat} {K : Value → Prop} (hb : isB b) (he : e < 4) : RdF (H z S M) (aEff b e) 3 3 K ↔ K (.int (S b 33 e 0 0)) := by unfold RdF; rw [ob_Eff hb he]; exact Iff.rfl
theorem wr_Eff_3 {e : Nat} {K : Hp → Prop} {v : Int32} (hb : isB b) (he : e < 4) : WrF (H z S M) (aEff b e) 3 3 (.int v) K ↔ K (H z (va_up S b (up4 (S b) 33 e 0 0 v)) M) := by
  unfold WrF
  rw [ob_Eff hb he]
  have E : setHp (H z S M) (aEff b e) (.inr (3, [.int (S b 30 e 0 0), .int (S b 31 e 0 0), .int (S b 32 e 0 0), .int v, .int (S b 34 e 0 0), .int (S b 35 e 0 0), .int (S b 36 e 0 0)])) = H z (va_up S b (up4 (S b) 33 e 0 0 v)) M := set_D (o := 148 + e) hb (by omega) ((cell_Eff he).trans (by simp [up4])) (fun k1 l1 c1 h1 h2 => up4_ne (fun h3 => h1 (h3.symm.trans (by simp only [own]))))
  exact ⟨fun h => (congrArg K E).mp h.2, fun h => ⟨Nat.le_of_ble_eq_true rfl, (congrArg K E).mpr h⟩⟩
theorem rd_Eff_4 {e : Nat} {K : Value → Prop} (hb : isB b) (he : e < 4) : RdF (H z S M) (aEff b e) 3 4 K ↔ K (.int (S b 34 e 0 0)) := by unfold RdF; rw [ob_Eff hb he]; exact Iff.rfl
theorem wr_Eff_4 {e : Nat} {K : Hp → Prop} {v : Int32} (hb : isB b) (he : e < 4) : WrF (H z S M) (aEff b e) 3 4 (.int v) K ↔ K (H z (va_up S b (up4 (S b) 34 e 0 0 v)) M) := by
  unfold WrF
  rw [ob_Eff hb he]
  have E : setHp (H z S M) (aEff b e) (.inr (3, [.int (S b 30 e 0 0), .int (S b 31 e 0 0), .int (S b 32 e 0 0), .int (S b 33 e 0 0), .int v, .int (S b 35 e 0 0), .int (S b 36 e 0 0)])) = H z (va_up S b (up4 (S b) 34 e 0 0 v)) M := set_D (o := 148 + e) hb (by omega) ((cell_Eff he).trans (by simp [up4])) (fun k1 l1 c1 h1 h2 => up4_ne (fun h3 => h1 (h3.symm.trans (by simp only [own]))))
  exact ⟨fun h => (congrArg K E).mp h.2, fun h => ⟨Nat.le_of_ble_eq_true rfl, (congrArg K E).mpr h⟩⟩
theorem rd_Eff_5 {e : Nat} {K : Value → Prop} (hb : isB b) (he : e < 4) : RdF (H z S M) (aEff b e) 3 5 K ↔ K (.int (S b 35 e 0 0)) := by unfold RdF; rw [ob_Eff hb he]; exact Iff.rfl
theorem wr_Eff_5 {e : Nat} {K : Hp → Prop} {v : Int32} (hb : isB b) (he : e < 4) : WrF (H z S M) (aEff b e) 3 5 (.int v) K ↔ K (H z (va_up S b (up4 (S b) 35 e 0 0 v)) M) := by
  unfold WrF
  rw [ob_Eff hb he]
  have E : setHp (H z S M) (aEff b e) (.inr (3, [.int (S b 30 e 0 0), .int (S b 31 e 0 0), .int (S b 32 e 0 0), .int (S b 33 e 0 0), .int (S b 34 e 0 0), .int v, .int (S b 36 e 0 0)])) = H z (va_up S b (up4 (S b) 35 e 0 0 v)) M := set_D (o := 148 + e) hb (by omega) ((cell_Eff he).trans (by simp [up4])) (fun k1 l1 c1 h1 h2 => up4_ne (fun h3 => h1 (h3.symm.trans (by simp only [own]))))
  exact ⟨fun h => (congrArg K E).mp h.2, fun h => ⟨Nat.le_of_ble_eq_true rfl, (congrArg K E).mpr h⟩⟩
theorem rd_Eff_6 {e : Nat} {K : Value → Prop} (hb : isB b) (he : e < 4) : RdF (H z S M) (aEff b e) 3 6 K ↔ K (.int (S b 36 e 0 0)) := by unfold RdF; rw [ob_Eff hb he]; exact Iff.rfl
theorem wr_Eff_6 {e : Nat} {K : Hp → Prop} {v : Int32} (hb : isB b) (he : e < 4) : WrF (H z S M) (aEff b e) 3 6 (.int v) K ↔ K (H z (va_up S b (up4 (S b) 36 e 0 0 v)) M) := by
  unfold WrF
  rw [ob_Eff hb he]
  have E : setHp (H z S M) (aEff b e) (.inr (3, [.int (S b 30 e 0 0), .int (S b 31 e 0 0), .int (S b 32 e 0 0), .int (S b 33 e 0 0), .int (S b 34 e 0 0), .int (S b 35 e 0 0), .int v])) = H z (va_up S b (up4 (S b) 36 e 0 0 v)) M := set_D (o := 148 + e) hb (by omega) ((cell_Eff he).trans (by simp [up4])) (fun k1 l1 c1 h1 h2 => up4_ne (fun h3 => h1 (h3.symm.trans (by simp only [own]))))
  exact ⟨fun h => (congrArg K E).mp h.2, fun h => ⟨Nat.le_of_ble_eq_true rfl, (congrArg K E).mpr h⟩⟩
theorem ce_Lines (hb : isB b) : (H z S M).2 (aLines b) = .inl (0, 12, .inl ((S b) 1 0 0)) := (H_D hb (by omega)).trans (cell_Lines)
theorem le_Lines (hb : isB b) : 1 ≤ aLines b ∧ aLines b ≤ 341 := by have := hb.le; unfold aLines; omega
theorem rd_Lines {s : Nat} {K : Int32 → Prop} (hb : isB b) (hs : s < 12) : RdA (H z S M) (aLines b) 0 (Int32.ofNat s) K ↔ K (S b 1 0 0 s) := RdA_of (ce_Lines hb) (le_Lines hb).1 (le_Lines hb).2 hs (by omega)
theorem wr_Lines {s : Nat} {x : Int32} {K : Hp → Prop} (hb : isB b) (hs : s < 12) : WrA (H z S M) (aLines b) 0 (Int32.ofNat s) x K ↔ K (H z (va_up S b (up4 (S b) 1 0 0 s x)) M) := by
  rw [WrA_of (ce_Lines hb) (le_Lines hb).1 (le_Lines hb).2 hs (by omega)]
  have E : setHp (H z S M) (aLines b) (.inl (0, 12, .inl (upd (S b 1 0 0) s x))) = H z (va_up S b (up4 (S b) 1 0 0 s x)) M := set_D (o := 1) hb (by omega) ((cell_Lines).trans (by rw [up4_row])) (fun k1 l1 c1 h1 h2 => up4_ne (fun h3 => h1 (h3.symm.trans (by simp only [own]))))
  exact ⟨fun h => (congrArg K E).mp h, fun h => (congrArg K E).mpr h⟩
theorem ce_PalA (hb : isB b) : (H z S M).2 (aPalA b) = .inl (0, 8, .inl ((S b) 6 0 0)) := (H_D hb (by omega)).trans (cell_PalA)
theorem le_PalA (hb : isB b) : 1 ≤ aPalA b ∧ aPalA b ≤ 341 := by have := hb.le; unfold aPalA; omega
theorem rd_PalA {s : Nat} {K : Int32 → Prop} (hb : isB b) (hs : s < 8) : RdA (H z S M) (aPalA b) 0 (Int32.ofNat s) K ↔ K (S b 6 0 0 s) := RdA_of (ce_PalA hb) (le_PalA hb).1 (le_PalA hb).2 hs (by omega)
theorem wr_PalA {s : Nat} {x : Int32} {K : Hp → Prop} (hb : isB b) (hs : s < 8) : WrA (H z S M) (aPalA b) 0 (Int32.ofNat s) x K ↔ K (H z (va_up S b (up4 (S b) 6 0 0 s x)) M) := by
  rw [WrA_of (ce_PalA hb) (le_PalA hb).1 (le_PalA hb).2 hs (by omega)]
  have E : setHp (H z S M) (aPalA b) (.inl (0, 8, .inl (upd (S b 6 0 0) s x))) = H z (va_up S b (up4 (S b) 6 0 0 s x)) M := set_D (o := 4) hb (by omega) ((cell_PalA).trans (by rw [up4_row])) (fun k1 l1 c1 h1 h2 => up4_ne (fun h3 => h1 (h3.symm.trans (by simp only [own]))))
  exact ⟨fun h => (congrArg K E).mp h, fun h => (congrArg K E).mpr h⟩
theorem ce_PalV (hb : isB b) : (H z S M).2 (aPalV b) = .inl (0, 8, .inl ((S b) 7 0 0)) := (H_D hb (by omega)).trans (cell_PalV)
theorem le_PalV (hb : isB b) : 1 ≤ aPalV b ∧ aPalV b ≤ 341 := by have := hb.le; unfold aPalV; omega
theorem rd_PalV {s : Nat} {K : Int32 → Prop} (hb : isB b) (hs : s < 8) : RdA (H z S M) (aPalV b) 0 (Int32.ofNat s) K ↔ K (S b 7 0 0 s) := RdA_of (ce_PalV hb) (le_PalV hb).1 (le_PalV hb).2 hs (by omega)
theorem wr_PalV {s : Nat} {x : Int32} {K : Hp → Prop} (hb : isB b) (hs : s < 8) : WrA (H z S M) (aPalV b) 0 (Int32.ofNat s) x K ↔ K (H z (va_up S b (up4 (S b) 7 0 0 s x)) M) := by
  rw [WrA_of (ce_PalV hb) (le_PalV hb).1 (le_PalV hb).2 hs (by omega)]
  have E : setHp (H z S M) (aPalV b) (.inl (0, 8, .inl (upd (S b 7 0 0) s x))) = H z (va_up S b (up4 (S b) 7 0 0 s x)) M := set_D (o := 5) hb (by omega) ((cell_PalV).trans (by rw [up4_row])) (fun k1 l1 c1 h1 h2 => up4_ne (fun h3 => h1 (h3.symm.trans (by simp only [own]))))
  exact ⟨fun h => (congrArg K E).mp h, fun h => (congrArg K E).mpr h⟩
theorem ce_PrgR (hb : isB b) : (H z S M).2 (aPrgR b) = .inl (0, 48, .inl ((S b) 9 0 0)) := (H_D hb (by omega)).trans (cell_PrgR)
theorem le_PrgR (hb : isB b) : 1 ≤ aPrgR b ∧ aPrgR b ≤ 341 := by have := hb.le; unfold aPrgR; omega
theorem rd_PrgR {s : Nat} {K : Int32 → Prop} (hb : isB b) (hs : s < 48) : RdA (H z S M) (aPrgR b) 0 (Int32.ofNat s) K ↔ K (S b 9 0 0 s) := RdA_of (ce_PrgR hb) (le_PrgR hb).1 (le_PrgR hb).2 hs (by omega)
theorem wr_PrgR {s : Nat} {x : Int32} {K : Hp → Prop} (hb : isB b) (hs : s < 48) : WrA (H z S M) (aPrgR b) 0 (Int32.ofNat s) x K ↔ K (H z (va_up S b (up4 (S b) 9 0 0 s x)) M) := by
  rw [WrA_of (ce_PrgR hb) (le_PrgR hb).1 (le_PrgR hb).2 hs (by omega)]
  have E : setHp (H z S M) (aPrgR b) (.inl (0, 48, .inl (upd (S b 9 0 0) s x))) = H z (va_up S b (up4 (S b) 9 0 0 s x)) M := set_D (o := 7) hb (by omega) ((cell_PrgR).trans (by rw [up4_row])) (fun k1 l1 c1 h1 h2 => up4_ne (fun h3 => h1 (h3.symm.trans (by simp only [own]))))
  exact ⟨fun h => (congrArg K E).mp h, fun h => (congrArg K E).mpr h⟩
theorem ce_GrpL {g : Nat} (hb : isB b) (hg : g < 6) : (H z S M).2 (aGrpL b g) = .inl (0, 12, .inl ((S b) 4 g 0)) := (H_D hb (by omega)).trans (cell_GrpL hg)
theorem le_GrpL {g : Nat} (hb : isB b) (hg : g < 6) : 1 ≤ aGrpL b g ∧ aGrpL b g ≤ 341 := by have := hb.le; unfold aGrpL; omega
theorem rd_GrpL {g : Nat} {s : Nat} {K : Int32 → Prop} (hb : isB b) (hg : g < 6) (hs : s < 12) : RdA (H z S M) (aGrpL b g) 0 (Int32.ofNat s) K ↔ K (S b 4 g 0 s) := RdA_of (ce_GrpL hb hg) (le_GrpL hb hg).1 (le_GrpL hb hg).2 hs (by omega)
theorem wr_GrpL {g : Nat} {s : Nat} {x : Int32} {K : Hp → Prop} (hb : isB b) (hg : g < 6) (hs : s < 12) : WrA (H z S M) (aGrpL b g) 0 (Int32.ofNat s) x K ↔ K (H z (va_up S b (up4 (S b) 4 g 0 s x)) M) := by
  rw [WrA_of (ce_GrpL hb hg) (le_GrpL hb hg).1 (le_GrpL hb hg).2 hs (by omega)]
  have E : setHp (H z S M) (aGrpL b g) (.inl (0, 12, .inl (upd (S b 4 g 0) s x))) = H z (va_up S b (up4 (S b) 4 g 0 s x)) M := set_D (o := 11 + 2 * g) hb (by omega) ((cell_GrpL hg).trans (by rw [up4_row])) (fun k1 l1 c1 h1 h2 => up4_ne (fun h3 => h1 (h3.symm.trans (by simp only [own]))))
  exact ⟨fun h => (congrArg K E).mp h, fun h => (congrArg K E).mpr h⟩
theorem ce_St {l : Nat} (hb : isB b) (hl : l < 3) : (H z S M).2 (aSt b l) = .inl (0, 48, .inl ((S b) 19 l 0)) := (H_D hb (by omega)).trans (cell_St hl)
theorem le_St {l : Nat} (hb : isB b) (hl : l < 3) : 1 ≤ aSt b l ∧ aSt b l ≤ 341 := by have := hb.le; unfold aSt; omega
theorem rd_St {l : Nat} {s : Nat} {K : Int32 → Prop} (hb : isB b) (hl : l < 3) (hs : s < 48) : RdA (H z S M) (aSt b l) 0 (Int32.ofNat s) K ↔ K (S b 19 l 0 s) := RdA_of (ce_St hb hl) (le_St hb hl).1 (le_St hb hl).2 hs (by omega)
theorem wr_St {l : Nat} {s : Nat} {x : Int32} {K : Hp → Prop} (hb : isB b) (hl : l < 3) (hs : s < 48) : WrA (H z S M) (aSt b l) 0 (Int32.ofNat s) x K ↔ K (H z (va_up S b (up4 (S b) 19 l 0 s x)) M) := by
  rw [WrA_of (ce_St hb hl) (le_St hb hl).1 (le_St hb hl).2 hs (by omega)]
  have E : setHp (H z S M) (aSt b l) (.inl (0, 48, .inl (upd (S b 19 l 0) s x))) = H z (va_up S b (up4 (S b) 19 l 0 s x)) M := set_D (o := 25 + 42 * l) hb (by omega) ((cell_St hl).trans (by rw [up4_row])) (fun k1 l1 c1 h1 h2 => up4_ne (fun h3 => h1 (h3.symm.trans (by simp only [own]))))
  exact ⟨fun h => (congrArg K E).mp h, fun h => (congrArg K E).mpr h⟩
theorem ce_Le {l : Nat} (hb : isB b) (hl : l < 3) : (H z S M).2 (aLe b l) = .inl (0, 48, .inl ((S b) 20 l 0)) := (H_D hb (by omega)).trans (cell_Le hl)
theorem le_Le {l : Nat} (hb : isB b) (hl : l < 3) : 1 ≤ aLe b l ∧ aLe b l ≤ 341 := by have := hb.le; unfold aLe; omega
theorem rd_Le {l : Nat} {s : Nat} {K : Int32 → Prop} (hb : isB b) (hl : l < 3) (hs : s < 48) : RdA (H z S M) (aLe b l) 0 (Int32.ofNat s) K ↔ K (S b 20 l 0 s) := RdA_of (ce_Le hb hl) (le_Le hb hl).1 (le_Le hb hl).2 hs (by omega)
theorem wr_Le {l : Nat} {s : Nat} {x : Int32} {K : Hp → Prop} (hb : isB b) (hl : l < 3) (hs : s < 48) : WrA (H z S M) (aLe b l) 0 (Int32.ofNat s) x K ↔ K (H z (va_up S b (up4 (S b) 20 l 0 s x)) M) := by
  rw [WrA_of (ce_Le hb hl) (le_Le hb hl).1 (le_Le hb hl).2 hs (by omega)]
  have E : setHp (H z S M) (aLe b l) (.inl (0, 48, .inl (upd (S b 20 l 0) s x))) = H z (va_up S b (up4 (S b) 20 l 0 s x)) M := set_D (o := 26 + 42 * l) hb (by omega) ((cell_Le hl).trans (by rw [up4_row])) (fun k1 l1 c1 h1 h2 => up4_ne (fun h3 => h1 (h3.symm.trans (by simp only [own]))))
  exact ⟨fun h => (congrArg K E).mp h, fun h => (congrArg K E).mpr h⟩
theorem ce_Or {l : Nat} (hb : isB b) (hl : l < 3) : (H z S M).2 (aOr b l) = .inl (0, 48, .inl ((S b) 21 l 0)) := (H_D hb (by omega)).trans (cell_Or hl)
theorem le_Or {l : Nat} (hb : isB b) (hl : l < 3) : 1 ≤ aOr b l ∧ aOr b l ≤ 341 := by have := hb.le; unfold aOr; omega
theorem rd_Or {l : Nat} {s : Nat} {K : Int32 → Prop} (hb : isB b) (hl : l < 3) (hs : s < 48) : RdA (H z S M) (aOr b l) 0 (Int32.ofNat s) K ↔ K (S b 21 l 0 s) := RdA_of (ce_Or hb hl) (le_Or hb hl).1 (le_Or hb hl).2 hs (by omega)
theorem wr_Or {l : Nat} {s : Nat} {x : Int32} {K : Hp → Prop} (hb : isB b) (hl : l < 3) (hs : s < 48) : WrA (H z S M) (aOr b l) 0 (Int32.ofNat s) x K ↔ K (H z (va_up S b (up4 (S b) 21 l 0 s x)) M) := by
  rw [WrA_of (ce_Or hb hl) (le_Or hb hl).1 (le_Or hb hl).2 hs (by omega)]
  have E : setHp (H z S M) (aOr b l) (.inl (0, 48, .inl (upd (S b 21 l 0) s x))) = H z (va_up S b (up4 (S b) 21 l 0 s x)) M := set_D (o := 27 + 42 * l) hb (by omega) ((cell_Or hl).trans (by rw [up4_row])) (fun k1 l1 c1 h1 h2 => up4_ne (fun h3 => h1 (h3.symm.trans (by simp only [own]))))
  exact ⟨fun h => (congrArg K E).mp h, fun h => (congrArg K E).mpr h⟩
theorem ce_Row {l : Nat} {c : Nat} (hb : isB b) (hl : l < 3) (hc : c < 12) : (H z S M).2 (aRow b l c) = .inl (0, 48, .inl ((S b) 29 l c)) := (H_D hb (by omega)).trans (cell_Row hl hc)
theorem le_Row {l : Nat} {c : Nat} (hb : isB b) (hl : l < 3) (hc : c < 12) : 1 ≤ aRow b l c ∧ aRow b l c ≤ 341 := by have := hb.le; unfold aRow; omega
theorem rd_Row {l : Nat} {c : Nat} {s : Nat} {K : Int32 → Prop} (hb : isB b) (hl : l < 3) (hc : c < 12) (hs : s < 48) : RdA (H z S M) (aRow b l c) 0 (Int32.ofNat s) K ↔ K (S b 29 l c s) := RdA_of (ce_Row hb hl hc) (le_Row hb hl hc).1 (le_Row hb hl hc).2 hs (by omega)
theorem wr_Row {l : Nat} {c : Nat} {s : Nat} {x : Int32} {K : Hp → Prop} (hb : isB b) (hl : l < 3) (hc : c < 12) (hs : s < 48) : WrA (H z S M) (aRow b l c) 0 (Int32.ofNat s) x K ↔ K (H z (va_up S b (up4 (S b) 29 l c s x)) M) := by
  rw [WrA_of (ce_Row hb hl hc) (le_Row hb hl hc).1 (le_Row hb hl hc).2 hs (by omega)]
  have E : setHp (H z S M) (aRow b l c) (.inl (0, 48, .inl (upd (S b 29 l c) s x))) = H z (va_up S b (up4 (S b) 29 l c s x)) M := set_D (o := 30 + 42 * l + 3 * c) hb (by omega) ((cell_Row hl hc).trans (by rw [up4_row])) (fun k1 l1 c1 h1 h2 => up4_ne (fun h3 => h1 (h3.symm.trans (by simp only [own]))))
  exact ⟨fun h => (congrArg K E).mp h, fun h => (congrArg K E).mpr h⟩
theorem ce_Fr {l : Nat} (hb : isB b) (hl : l < 3) : (H z S M).2 (aFr b l) = .inl (1, 48, .inr (.inr (.inl (fun i => ((S b) 18 l 0 i).toUInt32)))) := (H_D hb (by omega)).trans (cell_Fr hl)
theorem le_Fr {l : Nat} (hb : isB b) (hl : l < 3) : 1 ≤ aFr b l ∧ aFr b l ≤ 341 := by have := hb.le; unfold aFr; omega
theorem rd_Fr {l : Nat} {s : Nat} {K : UInt32 → Prop} (hb : isB b) (hl : l < 3) (hs : s < 48) : RdN (H z S M) (aFr b l) (Int32.ofNat s) K ↔ K (S b 18 l 0 s).toUInt32 := RdN_of (ce_Fr hb hl) (le_Fr hb hl).1 (le_Fr hb hl).2 hs (by omega)
theorem wr_Fr {l : Nat} {s : Nat} {x : UInt32} {K : Hp → Prop} (hb : isB b) (hl : l < 3) (hs : s < 48) : WrN (H z S M) (aFr b l) (Int32.ofNat s) x K ↔ K (H z (va_up S b (up4 (S b) 18 l 0 s x.toInt32)) M) := by
  rw [WrN_of (ce_Fr hb hl) (le_Fr hb hl).1 (le_Fr hb hl).2 hs (by omega)]
  have F : (fun i => (up4 (S b) 18 l 0 s x.toInt32 18 l 0 i).toUInt32) = vf_upd (fun i => (S b 18 l 0 i).toUInt32) s x := by
    funext i
    unfold vf_upd up4
    by_cases h : i = s <;> simp [h]
  have E : setHp (H z S M) (aFr b l) (.inl (1, 48, .inr (.inr (.inl (vf_upd (fun i => (S b 18 l 0 i).toUInt32) s x))))) = H z (va_up S b (up4 (S b) 18 l 0 s x.toInt32)) M := set_D (o := 24 + 42 * l) hb (by omega) ((cell_Fr hl).trans (by rw [F])) (fun k1 l1 c1 h1 h2 => up4_ne (fun h3 => h1 (h3.symm.trans (by simp only [own]))))
  exact ⟨fun h => (congrArg K E).mp h, fun h => (congrArg K E).mpr h⟩
theorem rd_Groups {s : Nat} {K : Nat → Prop} (hb : isB b) (hs : s < 6) : RdQ (H z S M) (aGroups b) (Int32.ofNat s) K ↔ K (aGrp b s) := RdQ_of ((H_D hb (by omega)).trans (cell_Groups)) (by omega) (by have := hb.le; unfold aGroups; omega) (by rw [H_1]; have := hb.le; unfold aGroups; omega) hs (by omega)
theorem rd_Lists {s : Nat} {K : Nat → Prop} (hb : isB b) (hs : s < 3) : RdQ (H z S M) (aLists b) (Int32.ofNat s) K ↔ K (aL b s) := RdQ_of ((H_D hb (by omega)).trans (cell_Lists)) (by omega) (by have := hb.le; unfold aLists; omega) (by rw [H_1]; have := hb.le; unfold aLists; omega) hs (by omega)
theorem rd_Effs {s : Nat} {K : Nat → Prop} (hb : isB b) (hs : s < 4) : RdQ (H z S M) (aEffs b) (Int32.ofNat s) K ↔ K (aEff b s) := RdQ_of ((H_D hb (by omega)).trans (cell_Effs)) (by omega) (by have := hb.le; unfold aEffs; omega) (by rw [H_1]; have := hb.le; unfold aEffs; omega) hs (by omega)
theorem rd_Cues {l : Nat} {s : Nat} {K : Nat → Prop} (hb : isB b) (hl : l < 3) (hs : s < 12) : RdQ (H z S M) (aCues b l) (Int32.ofNat s) K ↔ K (aCue b l s) := RdQ_of ((H_D hb (by omega)).trans (cell_Cues hl)) (by omega) (by have := hb.le; unfold aCues; omega) (by rw [H_1]; have := hb.le; unfold aCues; omega) hs (by omega)
end PIC
