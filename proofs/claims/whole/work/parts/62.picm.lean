/-! reads and writes of the model. Laid by gen/sto.py. -/
def ownM (k : Nat) : Nat := match k with
  | 0 => 0
  | 1 => 1
  | 2 => 0
  | 3 => 3
  | 4 => 2
  | 5 => 0
  | 6 => 4
  | 7 => 5
  | 9 => 6
  | 10 => 0
  | 11 => 0
  | 12 => 0
  | 13 => 7
  | 14 => 8
  | 15 => 9
  | 16 => 10
  | 17 => 11
  | 18 => 24
  | 19 => 21
  | 20 => 22
  | 22 => 13
  | 23 => 14
  | 24 => 15
  | 25 => 16
  | 26 => 17
  | 27 => 18
  | 29 => 12
  | 30 => 26
  | 31 => 27
  | 32 => 28
  | 33 => 29
  | 34 => 30
  | 35 => 31
  | 40 => 19
  | 41 => 23
  | 42 => 33
  | 43 => 32
  | 44 => 20
  | 45 => 25
  | 46 => 0
  | 47 => 0
  | _ => 50
theorem cellM_congr {o : Nat} {M N : St} (h : ∀ k, ownM k = o → M k = N k) : cellM M o = cellM N o := by
  unfold cellM
  by_cases c0 : o = 0
  · rw [if_pos c0, if_pos c0]
    subst c0
    simp only [h 46 rfl, h 0 rfl, h 2 rfl, h 5 rfl, h 10 rfl, h 11 rfl, h 12 rfl, h 47 rfl]
  rw [if_neg c0, if_neg c0]
  by_cases c1 : o = 1
  · rw [if_pos c1, if_pos c1]
    subst c1
    simp only [h 1 rfl]
  rw [if_neg c1, if_neg c1]
  by_cases c2 : o = 2
  · rw [if_pos c2, if_pos c2]
    subst c2
    simp only [h 4 rfl]
  rw [if_neg c2, if_neg c2]
  by_cases c3 : o = 3
  · rw [if_pos c3, if_pos c3]
    subst c3
    simp only [h 3 rfl]
  rw [if_neg c3, if_neg c3]
  by_cases c4 : o = 4
  · rw [if_pos c4, if_pos c4]
    subst c4
    simp only [h 6 rfl]
  rw [if_neg c4, if_neg c4]
  by_cases c5 : o = 5
  · rw [if_pos c5, if_pos c5]
    subst c5
    simp only [h 7 rfl]
  rw [if_neg c5, if_neg c5]
  by_cases c6 : o = 6
  · rw [if_pos c6, if_pos c6]
    subst c6
    simp only [h 9 rfl]
  rw [if_neg c6, if_neg c6]
  by_cases c7 : o = 7
  · rw [if_pos c7, if_pos c7]
    subst c7
    simp only [h 13 rfl]
  rw [if_neg c7, if_neg c7]
  by_cases c8 : o = 8
  · rw [if_pos c8, if_pos c8]
    subst c8
    simp only [h 14 rfl]
  rw [if_neg c8, if_neg c8]
  by_cases c9 : o = 9
  · rw [if_pos c9, if_pos c9]
    subst c9
    simp only [h 15 rfl]
  rw [if_neg c9, if_neg c9]
  by_cases c10 : o = 10
  · rw [if_pos c10, if_pos c10]
    subst c10
    simp only [h 16 rfl]
  rw [if_neg c10, if_neg c10]
  by_cases c11 : o = 11
  · rw [if_pos c11, if_pos c11]
    subst c11
    simp only [h 17 rfl]
  rw [if_neg c11, if_neg c11]
  by_cases c12 : o = 12
  · rw [if_pos c12, if_pos c12]
    subst c12
    simp only [h 29 rfl]
  rw [if_neg c12, if_neg c12]
  by_cases c13 : o = 13
  · rw [if_pos c13, if_pos c13]
    subst c13
    simp only [h 22 rfl]
  rw [if_neg c13, if_neg c13]
  by_cases c14 : o = 14
  · rw [if_pos c14, if_pos c14]
    subst c14
    simp only [h 23 rfl]
  rw [if_neg c14, if_neg c14]
  by_cases c15 : o = 15
  · rw [if_pos c15, if_pos c15]
    subst c15
    simp only [h 24 rfl]
  rw [if_neg c15, if_neg c15]
  by_cases c16 : o = 16
  · rw [if_pos c16, if_pos c16]
    subst c16
    simp only [h 25 rfl]
  rw [if_neg c16, if_neg c16]
  by_cases c17 : o = 17
  · rw [if_pos c17, if_pos c17]
    subst c17
    simp only [h 26 rfl]
  rw [if_neg c17, if_neg c17]
  by_cases c18 : o = 18
  · rw [if_pos c18, if_pos c18]
    subst c18
    simp only [h 27 rfl]
  rw [if_neg c18, if_neg c18]
  by_cases c19 : o = 19
  · rw [if_pos c19, if_pos c19]
    subst c19
    simp only [h 40 rfl]
  rw [if_neg c19, if_neg c19]
  by_cases c20 : o = 20
  · rw [if_pos c20, if_pos c20]
    subst c20
    simp only [h 44 rfl]
  rw [if_neg c20, if_neg c20]
  by_cases c21 : o = 21
  · rw [if_pos c21, if_pos c21]
    subst c21
    simp only [h 19 rfl]
  rw [if_neg c21, if_neg c21]
  by_cases c22 : o = 22
  · rw [if_pos c22, if_pos c22]
    subst c22
    simp only [h 20 rfl]
  rw [if_neg c22, if_neg c22]
  by_cases c23 : o = 23
  · rw [if_pos c23, if_pos c23]
    subst c23
    simp only [h 41 rfl]
  rw [if_neg c23, if_neg c23]
  by_cases c24 : o = 24
  · rw [if_pos c24, if_pos c24]
    subst c24
    simp only [h 18 rfl]
  rw [if_neg c24, if_neg c24]
  by_cases c25 : o = 25
  · rw [if_pos c25, if_pos c25]
    subst c25
    simp only [h 45 rfl]
  rw [if_neg c25, if_neg c25]
  by_cases c26 : o = 26
  · rw [if_pos c26, if_pos c26]
    subst c26
    simp only [h 30 rfl]
  rw [if_neg c26, if_neg c26]
  by_cases c27 : o = 27
  · rw [if_pos c27, if_pos c27]
    subst c27
    simp only [h 31 rfl]
  rw [if_neg c27, if_neg c27]
  by_cases c28 : o = 28
  · rw [if_pos c28, if_pos c28]
    subst c28
    simp only [h 32 rfl]
  rw [if_neg c28, if_neg c28]
  by_cases c29 : o = 29
  · rw [if_pos c29, if_pos c29]
    subst c29
    simp only [h 33 rfl]
  rw [if_neg c29, if_neg c29]
  by_cases c30 : o = 30
  · rw [if_pos c30, if_pos c30]
    subst c30
    simp only [h 34 rfl]
  rw [if_neg c30, if_neg c30]
  by_cases c31 : o = 31
  · rw [if_pos c31, if_pos c31]
    subst c31
    simp only [h 35 rfl]
  rw [if_neg c31, if_neg c31]
  by_cases c32 : o = 32
  · rw [if_pos c32, if_pos c32]
    subst c32
    simp only [h 43 rfl]
  rw [if_neg c32, if_neg c32]
  by_cases c33 : o = 33
  · rw [if_pos c33, if_pos c33]
    subst c33
    simp only [h 42 rfl]
  rw [if_neg c33, if_neg c33]
section PICM
variable {z : Ev} {S : Nat → St} {M : St}
theorem set_M {N : St} {o : Nat} {E : va_E} (ho : o < 34) (hE : cellM N o = E) (hA : ∀ k, ownM k ≠ o → N k = M k) : setHp (H z S M) (306 + o) E = H z S N := by
  unfold setHp
  refine Prod.ext rfl (funext fun a => ?_)
  show va_up (H z S M).2 (306 + o) E a = (H z S N).2 a
  unfold va_up
  by_cases ha : a = 306 + o
  · subst ha
    rw [if_pos rfl, H_M ho, hE]
  · rw [if_neg ha]
    unfold H
    dsimp only
    by_cases h1 : 306 ≤ a ∧ a < 340
    · have h2 : ¬ (2 ≤ a ∧ a < 154) := by omega
      have h3 : ¬ (154 ≤ a ∧ a < 306) := by omega
      simp only [h1, h2, h3, if_false, if_true, and_self]
      exact (cellM_congr fun k hk => hA k (by omega)).symm
    · simp only [h1, if_false]
theorem up4_nk {k l c s : Nat} {v : Int32} {k1 : Nat} (h : k1 ≠ k) : up4 M k l c s v k1 = M k1 := by
  funext l1 c1 s1
  unfold up4
  rw [if_neg]
  rintro ⟨rfl, -⟩
  exact h rfl
theorem ob_M : isObj (H z S M) 306 8 = some [.int (M 46 0 0 0), .int (M 0 0 0 0), .int (M 2 0 0 0), .int (M 5 0 0 0), .int (M 10 0 0 0), .int (M 11 0 0 0), .int (M 12 0 0 0), .ref 307, .ref 308, .ref 309, .ref 310, .ref 311, .ref 312, .ref 313, .ref 314, .ref 315, .ref 316, .ref 317, .ref 318, .ref 319, .ref 320, .ref 321, .ref 322, .ref 323, .ref 324, .ref 325, .ref 326, .ref 327, .ref 328, .ref 329, .ref 330, .ref 331, .ref 332, .ref 333, .ref 334, .ref 335, .ref 336, .ref 337, .ref 338, .ref 339, .int (M 47 0 0 0)] := isObj_of (H_M (o := 0) (by omega)) (by omega) (by rw [H_1]; omega)
theorem rc_M : Rcv (H z S M) 306 8 := by unfold Rcv; rw [ob_M]; rfl
theorem rd_M_0 {K : Value → Prop} : RdF (H z S M) 306 8 0 K ↔ K (.int (M 46 0 0 0)) := by unfold RdF; rw [ob_M]; exact Iff.rfl
theorem wr_M_0 {K : Hp → Prop} {v : Int32} : WrF (H z S M) 306 8 0 (.int v) K ↔ K (H z S (up4 M 46 0 0 0 v)) := by
  unfold WrF
  rw [ob_M]
  have E : setHp (H z S M) 306 (.inr (8, [.int v, .int (M 0 0 0 0), .int (M 2 0 0 0), .int (M 5 0 0 0), .int (M 10 0 0 0), .int (M 11 0 0 0), .int (M 12 0 0 0), .ref 307, .ref 308, .ref 309, .ref 310, .ref 311, .ref 312, .ref 313, .ref 314, .ref 315, .ref 316, .ref 317, .ref 318, .ref 319, .ref 320, .ref 321, .ref 322, .ref 323, .ref 324, .ref 325, .ref 326, .ref 327, .ref 328, .ref 329, .ref 330, .ref 331, .ref 332, .ref 333, .ref 334, .ref 335, .ref 336, .ref 337, .ref 338, .ref 339, .int (M 47 0 0 0)])) = H z S (up4 M 46 0 0 0 v) := set_M (o := 0) (by omega) (by unfold cellM; rw [if_pos rfl]; simp [up4]) (fun k h => up4_nk (fun h2 => h (by rw [h2]; rfl)))
  exact ⟨fun h => (congrArg K E).mp h.2, fun h => ⟨Nat.le_of_ble_eq_true rfl, (congrArg K E).mpr h⟩⟩
theorem rd_M_1 {K : Value → Prop} : RdF (H z S M) 306 8 1 K ↔ K (.int (M 0 0 0 0)) := by unfold RdF; rw [ob_M]; exact Iff.rfl
theorem wr_M_1 {K : Hp → Prop} {v : Int32} : WrF (H z S M) 306 8 1 (.int v) K ↔ K (H z S (up4 M 0 0 0 0 v)) := by
  unfold WrF
  rw [ob_M]
  have E : setHp (H z S M) 306 (.inr (8, [.int (M 46 0 0 0), .int v, .int (M 2 0 0 0), .int (M 5 0 0 0), .int (M 10 0 0 0), .int (M 11 0 0 0), .int (M 12 0 0 0), .ref 307, .ref 308, .ref 309, .ref 310, .ref 311, .ref 312, .ref 313, .ref 314, .ref 315, .ref 316, .ref 317, .ref 318, .ref 319, .ref 320, .ref 321, .ref 322, .ref 323, .ref 324, .ref 325, .ref 326, .ref 327, .ref 328, .ref 329, .ref 330, .ref 331, .ref 332, .ref 333, .ref 334, .ref 335, .ref 336, .ref 337, .ref 338, .ref 339, .int (M 47 0 0 0)])) = H z S (up4 M 0 0 0 0 v) := set_M (o := 0) (by omega) (by unfold cellM; rw [if_pos rfl]; simp [up4]) (fun k h => up4_nk (fun h2 => h (by rw [h2]; rfl)))
  exact ⟨fun h => (congrArg K E).mp h.2, fun h => ⟨Nat.le_of_ble_eq_true rfl, (congrArg K E).mpr h⟩⟩
theorem rd_M_2 {K : Value → Prop} : RdF (H z S M) 306 8 2 K ↔ K (.int (M 2 0 0 0)) := by unfold RdF; rw [ob_M]; exact Iff.rfl
theorem wr_M_2 {K : Hp → Prop} {v : Int32} : WrF (H z S M) 306 8 2 (.int v) K ↔ K (H z S (up4 M 2 0 0 0 v)) := by
  unfold WrF
  rw [ob_M]
  have E : setHp (H z S M) 306 (.inr (8, [.int (M 46 0 0 0), .int (M 0 0 0 0), .int v, .int (M 5 0 0 0), .int (M 10 0 0 0), .int (M 11 0 0 0), .int (M 12 0 0 0), .ref 307, .ref 308, .ref 309, .ref 310, .ref 311, .ref 312, .ref 313, .ref 314, .ref 315, .ref 316, .ref 317, .ref 318, .ref 319, .ref 320, .ref 321, .ref 322, .ref 323, .ref 324, .ref 325, .ref 326, .ref 327, .ref 328, .ref 329, .ref 330, .ref 331, .ref 332, .ref 333, .ref 334, .ref 335, .ref 336, .ref 337, .ref 338, .ref 339, .int (M 47 0 0 0)])) = H z S (up4 M 2 0 0 0 v) := set_M (o := 0) (by omega) (by unfold cellM; rw [if_pos rfl]; simp [up4]) (fun k h => up4_nk (fun h2 => h (by rw [h2]; rfl)))
  exact ⟨fun h => (congrArg K E).mp h.2, fun h => ⟨Nat.le_of_ble_eq_true rfl, (congrArg K E).mpr h⟩⟩
theorem rd_M_3 {K : Value → Prop} : RdF (H z S M) 306 8 3 K ↔ K (.int (M 5 0 0 0)) := by unfold RdF; rw [ob_M]; exact Iff.rfl
theorem wr_M_3 {K : Hp → Prop} {v : Int32} : WrF (H z S M) 306 8 3 (.int v) K ↔ K (H z S (up4 M 5 0 0 0 v)) := by
  unfold WrF
  rw [ob_M]
  have E : setHp (H z S M) 306 (.inr (8, [.int (M 46 0 0 0), .int (M 0 0 0 0), .int (M 2 0 0 0), .int v, .int (M 10 0 0 0), .int (M 11 0 0 0), .int (M 12 0 0 0), .ref 307, .ref 308, .ref 309, .ref 310, .ref 311, .ref 312, .ref 313, .ref 314, .ref 315, .ref 316, .ref 317, .ref 318, .ref 319, .ref 320, .ref 321, .ref 322, .ref 323, .ref 324, .ref 325, .ref 326, .ref 327, .ref 328, .ref 329, .ref 330, .ref 331, .ref 332, .ref 333, .ref 334, .ref 335, .ref 336, .ref 337, .ref 338, .ref 339, .int (M 47 0 0 0)])) = H z S (up4 M 5 0 0 0 v) := set_M (o := 0) (by omega) (by unfold cellM; rw [if_pos rfl]; simp [up4]) (fun k h => up4_nk (fun h2 => h (by rw [h2]; rfl)))
  exact ⟨fun h => (congrArg K E).mp h.2, fun h => ⟨Nat.le_of_ble_eq_true rfl, (congrArg K E).mpr h⟩⟩
theorem rd_M_4 {K : Value → Prop} : RdF (H z S M) 306 8 4 K ↔ K (.int (M 10 0 0 0)) := by unfold RdF; rw [ob_M]; exact Iff.rfl
theorem wr_M_4 {K : Hp → Prop} {v : Int32} : WrF (H z S M) 306 8 4 (.int v) K ↔ K (H z S (up4 M 10 0 0 0 v)) := by
  unfold WrF
  rw [ob_M]
  have E : setHp (H z S M) 306 (.inr (8, [.int (M 46 0 0 0), .int (M 0 0 0 0), .int (M 2 0 0 0), .int (M 5 0 0 0), .int v, .int (M 11 0 0 0), .int (M 12 0 0 0), .ref 307, .ref 308, .ref 309, .ref 310, .ref 311, .ref 312, .ref 313, .ref 314, .ref 315, .ref 316, .ref 317, .ref 318, .ref 319, .ref 320, .ref 321, .ref 322, .ref 323, .ref 324, .ref 325, .ref 326, .ref 327, .ref 328, .ref 329, .ref 330, .ref 331, .ref 332, .ref 333, .ref 334, .ref 335, .ref 336, .ref 337, .ref 338, .ref 339, .int (M 47 0 0 0)])) = H z S (up4 M 10 0 0 0 v) := set_M (o := 0) (by omega) (by unfold cellM; rw [if_pos rfl]; simp [up4]) (fun k h => up4_nk (fun h2 => h (by rw [h2]; rfl)))
  exact ⟨fun h => (congrArg K E).mp h.2, fun h => ⟨Nat.le_of_ble_eq_true rfl, (congrArg K E).mpr h⟩⟩
theorem rd_M_5 {K : Value → Prop} : RdF (H z S M) 306 8 5 K ↔ K (.int (M 11 0 0 0)) := by unfold RdF; rw [ob_M]; exact Iff.rfl
theorem wr_M_5 {K : Hp → Prop} {v : Int32} : WrF (H z S M) 306 8 5 (.int v) K ↔ K (H z S (up4 M 11 0 0 0 v)) := by
  unfold WrF
  rw [ob_M]
  have E : setHp (H z S M) 306 (.inr (8, [.int (M 46 0 0 0), .int (M 0 0 0 0), .int (M 2 0 0 0), .int (M 5 0 0 0), .int (M 10 0 0 0), .int v, .int (M 12 0 0 0), .ref 307, .ref 308, .ref 309, .ref 310, .ref 311, .ref 312, .ref 313, .ref 314, .ref 315, .ref 316, .ref 317, .ref 318, .ref 319, .ref 320, .ref 321, .ref 322, .ref 323, .ref 324, .ref 325, .ref 326, .ref 327, .ref 328, .ref 329, .ref 330, .ref 331, .ref 332, .ref 333, .ref 334, .ref 335, .ref 336, .ref 337, .ref 338, .ref 339, .int (M 47 0 0 0)])) = H z S (up4 M 11 0 0 0 v) := set_M (o := 0) (by omega) (by unfold cellM; rw [if_pos rfl]; simp [up4]) (fun k h => up4_nk (fun h2 => h (by rw [h2]; rfl)))
  exact ⟨fun h => (congrArg K E).mp h.2, fun h => ⟨Nat.le_of_ble_eq_true rfl, (congrArg K E).mpr h⟩⟩
theorem rd_M_6 {K : Value → Prop} : RdF (H z S M) 306 8 6 K ↔ K (.int (M 12 0 0 0)) := by unfold RdF; rw [ob_M]; exact Iff.rfl
theorem wr_M_6 {K : Hp → Prop} {v : Int32} : WrF (H z S M) 306 8 6 (.int v) K ↔ K (H z S (up4 M 12 0 0 0 v)) := by
  unfold WrF
  rw [ob_M]
  have E : setHp (H z S M) 306 (.inr (8, [.int (M 46 0 0 0), .int (M 0 0 0 0), .int (M 2 0 0 0), .int (M 5 0 0 0), .int (M 10 0 0 0), .int (M 11 0 0 0), .int v, .ref 307, .ref 308, .ref 309, .ref 310, .ref 311, .ref 312, .ref 313, .ref 314, .ref 315, .ref 316, .ref 317, .ref 318, .ref 319, .ref 320, .ref 321, .ref 322, .ref 323, .ref 324, .ref 325, .ref 326, .ref 327, .ref 328, .ref 329, .ref 330, .ref 331, .ref 332, .ref 333, .ref 334, .ref 335, .ref 336, .ref 337, .ref 338, .ref 339, .int (M 47 0 0 0)])) = H z S (up4 M 12 0 0 0 v) := set_M (o := 0) (by omega) (by unfold cellM; rw [if_pos rfl]; simp [up4]) (fun k h => up4_nk (fun h2 => h (by rw [h2]; rfl)))
  exact ⟨fun h => (congrArg K E).mp h.2, fun h => ⟨Nat.le_of_ble_eq_true rfl, (congrArg K E).mpr h⟩⟩
theorem rd_M_7 {K : Value → Prop} : RdF (H z S M) 306 8 7 K ↔ K (.ref 307) := by unfold RdF; rw [ob_M]; exact Iff.rfl
theorem rd_M_8 {K : Value → Prop} : RdF (H z S M) 306 8 8 K ↔ K (.ref 308) := by unfold RdF; rw [ob_M]; exact Iff.rfl
theorem rd_M_9 {K : Value → Prop} : RdF (H z S M) 306 8 9 K ↔ K (.ref 309) := by unfold RdF; rw [ob_M]; exact Iff.rfl
theorem rd_M_10 {K : Value → Prop} : RdF (H z S M) 306 8 10 K ↔ K (.ref 310) := by unfold RdF; rw [ob_M]; exact Iff.rfl
theorem rd_M_11 {K : Value → Prop} : RdF (H z S M) 306 8 11 K ↔ K (.ref 311) := by unfold RdF; rw [ob_M]; exact Iff.rfl
theorem rd_M_12 {K : Value → Prop} : RdF (H z S M) 306 8 12 K ↔ K (.ref 312) := by unfold RdF; rw [ob_M]; exact Iff.rfl
theorem rd_M_13 {K : Value → Prop} : RdF (H z S M) 306 8 13 K ↔ K (.ref 313) := by unfold RdF; rw [ob_M]; exact Iff.rfl
theorem rd_M_14 {K : Value → Prop} : RdF (H z S M) 306 8 14 K ↔ K (.ref 314) := by unfold RdF; rw [ob_M]; exact Iff.rfl
theorem rd_M_15 {K : Value → Prop} : RdF (H z S M) 306 8 15 K ↔ K (.ref 315) := by unfold RdF; rw [ob_M]; exact Iff.rfl
theorem rd_M_16 {K : Value → Prop} : RdF (H z S M) 306 8 16 K ↔ K (.ref 316) := by unfold RdF; rw [ob_M]; exact Iff.rfl
theorem rd_M_17 {K : Value → Prop} : RdF (H z S M) 306 8 17 K ↔ K (.ref 317) := by unfold RdF; rw [ob_M]; exact Iff.rfl
theorem rd_M_18 {K : Value → Prop} : RdF (H z S M) 306 8 18 K ↔ K (.ref 318) := by unfold RdF; rw [ob_M]; exact Iff.rfl
theorem rd_M_19 {K : Value → Prop} : RdF (H z S M) 306 8 19 K ↔ K (.ref 319) := by unfold RdF; rw [ob_M]; exact Iff.rfl
theorem rd_M_20 {K : Value → Prop} : RdF (H z S M) 306 8 20 K ↔ K (.ref 320) := by unfold RdF; rw [ob_M]; exact Iff.rfl
theorem rd_M_21 {K : Value → Prop} : RdF (H z S M) 306 8 21 K ↔ K (.ref 321) := by unfold RdF; rw [ob_M]; exact Iff.rfl
theorem rd_M_22 {K : Value → Prop} : RdF (H z S M) 306 8 22 K ↔ K (.ref 322) := by unfold RdF; rw [ob_M]; exact Iff.rfl
theorem rd_M_23 {K : Value → Prop} : RdF (H z S M) 306 8 23 K ↔ K (.ref 323) := by unfold RdF; rw [ob_M]; exact Iff.rfl
theorem rd_M_24 {K : Value → Prop} : RdF (H z S M) 306 8 24 K ↔ K (.ref 324) := by unfold RdF; rw [ob_M]; exact Iff.rfl
theorem rd_M_25 {K : Value → Prop} : RdF (H z S M) 306 8 25 K ↔ K (.ref 325) := by unfold RdF; rw [ob_M]; exact Iff.rfl
theorem rd_M_26 {K : Value → Prop} : RdF (H z S M) 306 8 26 K ↔ K (.ref 326) := by unfold RdF; rw [ob_M]; exact Iff.rfl
theorem rd_M_27 {K : Value → Prop} : RdF (H z S M) 306 8 27 K ↔ K (.ref 327) := by unfold RdF; rw [ob_M]; exact Iff.rfl
theorem rd_M_28 {K : Value → Prop} : RdF (H z S M) 306 8 28 K ↔ K (.ref 328) := by unfold RdF; rw [ob_M]; exact Iff.rfl
theorem rd_M_29 {K : Value → Prop} : RdF (H z S M) 306 8 29 K ↔ K (.ref 329) := by unfold RdF; rw [ob_M]; exact Iff.rfl
theorem rd_M_30 {K : Value → Prop} : RdF (H z S M) 306 8 30 K ↔ K (.ref 330) := by unfold RdF; rw [ob_M]; exact Iff.rfl
theorem rd_M_31 {K : Value → Prop} : RdF (H z S M) 306 8 31 K ↔ K (.ref 331) := by unfold RdF; rw [ob_M]; exact Iff.rfl
theorem rd_M_32 {K : Value → Prop} : RdF (H z S M) 306 8 32 K ↔ K (.ref 332) := by unfold RdF; rw [ob_M]; exact Iff.rfl
theorem rd_M_33 {K : Value → Prop} : RdF (H z S M) 306 8 33 K ↔ K (.ref 333) := by unfold RdF; rw [ob_M]; exact Iff.rfl
theorem rd_M_34 {K : Value → Prop} : RdF (H z S M) 306 8 34 K ↔ K (.ref 334) := by unfold RdF; rw [ob_M]; exact Iff.rfl
theorem rd_M_35 {K : Value → Prop} : RdF (H z S M) 306 8 35 K ↔ K (.ref 335) := by unfold RdF; rw [ob_M]; exact Iff.rfl
theorem rd_M_36 {K : Value → Prop} : RdF (H z S M) 306 8 36 K ↔ K (.ref 336) := by unfold RdF; rw [ob_M]; exact Iff.rfl
theorem rd_M_37 {K : Value → Prop} : RdF (H z S M) 306 8 37 K ↔ K (.ref 337) := by unfold RdF; rw [ob_M]; exact Iff.rfl
theorem rd_M_38 {K : Value → Prop} : RdF (H z S M) 306 8 38 K ↔ K (.ref 338) := by unfold RdF; rw [ob_M]; exact Iff.rfl
theorem rd_M_39 {K : Value → Prop} : RdF (H z S M) 306 8 39 K ↔ K (.ref 339) := by unfold RdF; rw [ob_M]; exact Iff.rfl
theorem rd_M_40 {K : Value → Prop} : RdF (H z S M) 306 8 40 K ↔ K (.int (M 47 0 0 0)) := by unfold RdF; rw [ob_M]; exact Iff.rfl
theorem wr_M_40 {K : Hp → Prop} {v : Int32} : WrF (H z S M) 306 8 40 (.int v) K ↔ K (H z S (up4 M 47 0 0 0 v)) := by
  unfold WrF
  rw [ob_M]
  have E : setHp (H z S M) 306 (.inr (8, [.int (M 46 0 0 0), .int (M 0 0 0 0), .int (M 2 0 0 0), .int (M 5 0 0 0), .int (M 10 0 0 0), .int (M 11 0 0 0), .int (M 12 0 0 0), .ref 307, .ref 308, .ref 309, .ref 310, .ref 311, .ref 312, .ref 313, .ref 314, .ref 315, .ref 316, .ref 317, .ref 318, .ref 319, .ref 320, .ref 321, .ref 322, .ref 323, .ref 324, .ref 325, .ref 326, .ref 327, .ref 328, .ref 329, .ref 330, .ref 331, .ref 332, .ref 333, .ref 334, .ref 335, .ref 336, .ref 337, .ref 338, .ref 339, .int v])) = H z S (up4 M 47 0 0 0 v) := set_M (o := 0) (by omega) (by unfold cellM; rw [if_pos rfl]; simp [up4]) (fun k h => up4_nk (fun h2 => h (by rw [h2]; rfl)))
  exact ⟨fun h => (congrArg K E).mp h.2, fun h => ⟨Nat.le_of_ble_eq_true rfl, (congrArg K E).mpr h⟩⟩
theorem ix_line {s : Nat} (hs : s < 12) : M 1 0 0 ((s)) = M 1 0 0 s := by
  rfl
theorem cm_line : (H z S M).2 307 = .inl (0, 12, .inl (fun i => M 1 0 0 i)) := H_M (o := 1) (by omega)
theorem iu_line {s : Nat} (hs : s < 12) {v : Int32} : (fun i => (up4 M 1 0 0 s v) 1 0 0 i) = upd (fun i => M 1 0 0 i) (s) v := by
  funext i
  unfold up4 upd
  by_cases h : i = s <;> simp [h]
theorem rd_m_line {s : Nat} {K : Int32 → Prop} (hs : s < 12) : RdA (H z S M) 307 0 (Int32.ofNat (s)) K ↔ K (M 1 0 0 s) := (RdA_of cm_line (by omega) (by rw [H_1]; omega) (by omega) (by omega)).trans (by rw [ix_line (M := M) hs])
theorem wr_m_line {s : Nat} {K : Hp → Prop} {v : Int32} (hs : s < 12) : WrA (H z S M) 307 0 (Int32.ofNat (s)) v K ↔ K (H z S (up4 M 1 0 0 s  v)) := by
  rw [WrA_of cm_line (by omega) (by rw [H_1]; omega) (by omega) (by omega)]
  have E : setHp (H z S M) 307 (.inl (0, 12, .inl (upd (fun i => M 1 0 0 i) (s) v))) = H z S (up4 M 1 0 0 s  v) := set_M (o := 1) (by omega) (by unfold cellM; simp [iu_line hs]) (fun k h => up4_nk (fun h2 => h (by rw [h2]; rfl)))
  exact ⟨fun h => (congrArg K E).mp h, fun h => (congrArg K E).mpr h⟩
theorem ix_memb {l s : Nat} (hl : l < 6) (hs : s < 12) : M 4 (((12 * l + s) / 12)) 0 (((12 * l + s) % 12)) = M 4 l 0 s := by
  rw [show (((12 * l + s) / 12)) = l by omega, show (((12 * l + s) % 12)) = s by omega]
theorem cm_memb : (H z S M).2 308 = .inl (0, 72, .inl (fun i => M 4 (i / 12) 0 (i % 12))) := H_M (o := 2) (by omega)
theorem iu_memb {l s : Nat} (hl : l < 6) (hs : s < 12) {v : Int32} : (fun i => (up4 M 4 l 0 s v) 4 (i / 12) 0 (i % 12)) = upd (fun i => M 4 (i / 12) 0 (i % 12)) (12 * l + s) v := by
  funext i
  unfold up4 upd
  by_cases h : i = 12 * l + s
  · have h1 : ((12 * l + s) / 12) = l ∧ ((12 * l + s) % 12) = s := by omega
    simp [h, h1]
  · have h1 : ¬ ((i / 12) = l ∧ (i % 12) = s) := by omega
    rw [if_neg (fun h2 => h1 ⟨h2.2.1, h2.2.2.2⟩), if_neg h]
theorem rd_m_memb {l s : Nat} {K : Int32 → Prop} (hl : l < 6) (hs : s < 12) : RdA (H z S M) 308 0 (Int32.ofNat (12 * l + s)) K ↔ K (M 4 l 0 s) := (RdA_of cm_memb (by omega) (by rw [H_1]; omega) (by omega) (by omega)).trans (by rw [ix_memb (M := M) hl hs])
theorem wr_m_memb {l s : Nat} {K : Hp → Prop} {v : Int32} (hl : l < 6) (hs : s < 12) : WrA (H z S M) 308 0 (Int32.ofNat (12 * l + s)) v K ↔ K (H z S (up4 M 4 l 0 s  v)) := by
  rw [WrA_of cm_memb (by omega) (by rw [H_1]; omega) (by omega) (by omega)]
  have E : setHp (H z S M) 308 (.inl (0, 72, .inl (upd (fun i => M 4 (i / 12) 0 (i % 12)) (12 * l + s) v))) = H z S (up4 M 4 l 0 s  v) := set_M (o := 2) (by omega) (by unfold cellM; simp [iu_memb hl hs]) (fun k h => up4_nk (fun h2 => h (by rw [h2]; rfl)))
  exact ⟨fun h => (congrArg K E).mp h, fun h => (congrArg K E).mpr h⟩
theorem ix_mcnt {l : Nat} (hl : l < 6) : M 3 ((l)) 0 0 = M 3 l 0 0 := by
  rfl
theorem cm_mcnt : (H z S M).2 309 = .inl (0, 6, .inl (fun i => M 3 i 0 0)) := H_M (o := 3) (by omega)
theorem iu_mcnt {l : Nat} (hl : l < 6) {v : Int32} : (fun i => (up4 M 3 l 0 0 v) 3 i 0 0) = upd (fun i => M 3 i 0 0) (l) v := by
  funext i
  unfold up4 upd
  by_cases h : i = l <;> simp [h]
theorem rd_m_mcnt {l : Nat} {K : Int32 → Prop} (hl : l < 6) : RdA (H z S M) 309 0 (Int32.ofNat (l)) K ↔ K (M 3 l 0 0) := (RdA_of cm_mcnt (by omega) (by rw [H_1]; omega) (by omega) (by omega)).trans (by rw [ix_mcnt (M := M) hl])
theorem wr_m_mcnt {l : Nat} {K : Hp → Prop} {v : Int32} (hl : l < 6) : WrA (H z S M) 309 0 (Int32.ofNat (l)) v K ↔ K (H z S (up4 M 3 l 0 0  v)) := by
  rw [WrA_of cm_mcnt (by omega) (by rw [H_1]; omega) (by omega) (by omega)]
  have E : setHp (H z S M) 309 (.inl (0, 6, .inl (upd (fun i => M 3 i 0 0) (l) v))) = H z S (up4 M 3 l 0 0  v) := set_M (o := 3) (by omega) (by unfold cellM; simp [iu_mcnt hl]) (fun k h => up4_nk (fun h2 => h (by rw [h2]; rfl)))
  exact ⟨fun h => (congrArg K E).mp h, fun h => (congrArg K E).mpr h⟩
theorem ix_pkind {s : Nat} (hs : s < 8) : M 6 0 0 ((s)) = M 6 0 0 s := by
  rfl
theorem cm_pkind : (H z S M).2 310 = .inl (0, 8, .inl (fun i => M 6 0 0 i)) := H_M (o := 4) (by omega)
theorem iu_pkind {s : Nat} (hs : s < 8) {v : Int32} : (fun i => (up4 M 6 0 0 s v) 6 0 0 i) = upd (fun i => M 6 0 0 i) (s) v := by
  funext i
  unfold up4 upd
  by_cases h : i = s <;> simp [h]
theorem rd_m_pkind {s : Nat} {K : Int32 → Prop} (hs : s < 8) : RdA (H z S M) 310 0 (Int32.ofNat (s)) K ↔ K (M 6 0 0 s) := (RdA_of cm_pkind (by omega) (by rw [H_1]; omega) (by omega) (by omega)).trans (by rw [ix_pkind (M := M) hs])
theorem wr_m_pkind {s : Nat} {K : Hp → Prop} {v : Int32} (hs : s < 8) : WrA (H z S M) 310 0 (Int32.ofNat (s)) v K ↔ K (H z S (up4 M 6 0 0 s  v)) := by
  rw [WrA_of cm_pkind (by omega) (by rw [H_1]; omega) (by omega) (by omega)]
  have E : setHp (H z S M) 310 (.inl (0, 8, .inl (upd (fun i => M 6 0 0 i) (s) v))) = H z S (up4 M 6 0 0 s  v) := set_M (o := 4) (by omega) (by unfold cellM; simp [iu_pkind hs]) (fun k h => up4_nk (fun h2 => h (by rw [h2]; rfl)))
  exact ⟨fun h => (congrArg K E).mp h, fun h => (congrArg K E).mpr h⟩
theorem ix_pval {s : Nat} (hs : s < 8) : M 7 0 0 ((s)) = M 7 0 0 s := by
  rfl
theorem cm_pval : (H z S M).2 311 = .inl (0, 8, .inl (fun i => M 7 0 0 i)) := H_M (o := 5) (by omega)
theorem iu_pval {s : Nat} (hs : s < 8) {v : Int32} : (fun i => (up4 M 7 0 0 s v) 7 0 0 i) = upd (fun i => M 7 0 0 i) (s) v := by
  funext i
  unfold up4 upd
  by_cases h : i = s <;> simp [h]
theorem rd_m_pval {s : Nat} {K : Int32 → Prop} (hs : s < 8) : RdA (H z S M) 311 0 (Int32.ofNat (s)) K ↔ K (M 7 0 0 s) := (RdA_of cm_pval (by omega) (by rw [H_1]; omega) (by omega) (by omega)).trans (by rw [ix_pval (M := M) hs])
theorem wr_m_pval {s : Nat} {K : Hp → Prop} {v : Int32} (hs : s < 8) : WrA (H z S M) 311 0 (Int32.ofNat (s)) v K ↔ K (H z S (up4 M 7 0 0 s  v)) := by
  rw [WrA_of cm_pval (by omega) (by rw [H_1]; omega) (by omega) (by omega)]
  have E : setHp (H z S M) 311 (.inl (0, 8, .inl (upd (fun i => M 7 0 0 i) (s) v))) = H z S (up4 M 7 0 0 s  v) := set_M (o := 5) (by omega) (by unfold cellM; simp [iu_pval hs]) (fun k h => up4_nk (fun h2 => h (by rw [h2]; rfl)))
  exact ⟨fun h => (congrArg K E).mp h, fun h => (congrArg K E).mpr h⟩
theorem ix_prog {s : Nat} (hs : s < 48) : M 9 0 0 ((s)) = M 9 0 0 s := by
  rfl
theorem cm_prog : (H z S M).2 312 = .inl (0, 48, .inl (fun i => encE (M 9 0 0 i))) := H_M (o := 6) (by omega)
theorem iu_prog {s : Nat} (hs : s < 48) {v : Int32} : (fun i => (up4 M 9 0 0 s v) 9 0 0 i) = upd (fun i => M 9 0 0 i) (s) v := by
  funext i
  unfold up4 upd
  by_cases h : i = s <;> simp [h]
theorem rd_m_prog {s : Nat} {K : Int32 → Prop} (hs : s < 48) : RdA (H z S M) 312 0 (Int32.ofNat (s)) K ↔ K (encE (M 9 0 0 s)) := (RdA_of cm_prog (by omega) (by rw [H_1]; omega) (by omega) (by omega)).trans (by rw [ix_prog (M := M) hs])
theorem iw_prog {s : Nat} (hs : s < 48) {v : Int32} : (fun i => encE ((up4 M 9 0 0 s v) 9 0 0 i)) = upd (fun i => encE (M 9 0 0 i)) (s) (encE v) := by
  funext i
  have h0 := congrFun (iu_prog (M := M) hs (v := v)) i
  rw [h0]
  unfold upd
  split <;> rfl
theorem wr_m_prog {s : Nat} {K : Hp → Prop} {v : Int32} (hs : s < 48) : WrA (H z S M) 312 0 (Int32.ofNat (s)) (encE v) K ↔ K (H z S (up4 M 9 0 0 s  v)) := by
  rw [WrA_of cm_prog (by omega) (by rw [H_1]; omega) (by omega) (by omega)]
  have E : setHp (H z S M) 312 (.inl (0, 48, .inl (upd (fun i => encE (M 9 0 0 i)) (s) (encE v)))) = H z S (up4 M 9 0 0 s  v) := set_M (o := 6) (by omega) (by unfold cellM; simp [iw_prog hs]) (fun k h => up4_nk (fun h2 => h (by rw [h2]; rfl)))
  exact ⟨fun h => (congrArg K E).mp h, fun h => (congrArg K E).mpr h⟩
theorem wr_m_prog_i {s : Nat} {K : Hp → Prop} {v : Int32} (hs : s < 48) (hv : encE v = v) : WrA (H z S M) 312 0 (Int32.ofNat (s)) v K ↔ K (H z S (up4 M 9 0 0 s  v)) := by
  have h := wr_m_prog (z := z) (S := S) (M := M) (K := K) (v := v) hs
  rw [hv] at h
  exact h
theorem ix_ccnt {l : Nat} (hl : l < 3) : M 13 ((l)) 0 0 = M 13 l 0 0 := by
  rfl
theorem cm_ccnt : (H z S M).2 313 = .inl (0, 3, .inl (fun i => M 13 i 0 0)) := H_M (o := 7) (by omega)
theorem iu_ccnt {l : Nat} (hl : l < 3) {v : Int32} : (fun i => (up4 M 13 l 0 0 v) 13 i 0 0) = upd (fun i => M 13 i 0 0) (l) v := by
  funext i
  unfold up4 upd
  by_cases h : i = l <;> simp [h]
theorem rd_m_ccnt {l : Nat} {K : Int32 → Prop} (hl : l < 3) : RdA (H z S M) 313 0 (Int32.ofNat (l)) K ↔ K (M 13 l 0 0) := (RdA_of cm_ccnt (by omega) (by rw [H_1]; omega) (by omega) (by omega)).trans (by rw [ix_ccnt (M := M) hl])
theorem wr_m_ccnt {l : Nat} {K : Hp → Prop} {v : Int32} (hl : l < 3) : WrA (H z S M) 313 0 (Int32.ofNat (l)) v K ↔ K (H z S (up4 M 13 l 0 0  v)) := by
  rw [WrA_of cm_ccnt (by omega) (by rw [H_1]; omega) (by omega) (by omega)]
  have E : setHp (H z S M) 313 (.inl (0, 3, .inl (upd (fun i => M 13 i 0 0) (l) v))) = H z S (up4 M 13 l 0 0  v) := set_M (o := 7) (by omega) (by unfold cellM; simp [iu_ccnt hl]) (fun k h => up4_nk (fun h2 => h (by rw [h2]; rfl)))
  exact ⟨fun h => (congrArg K E).mp h, fun h => (congrArg K E).mpr h⟩
theorem ix_pres {l : Nat} (hl : l < 3) : M 14 ((l)) 0 0 = M 14 l 0 0 := by
  rfl
theorem cm_pres : (H z S M).2 314 = .inl (0, 3, .inl (fun i => M 14 i 0 0)) := H_M (o := 8) (by omega)
theorem iu_pres {l : Nat} (hl : l < 3) {v : Int32} : (fun i => (up4 M 14 l 0 0 v) 14 i 0 0) = upd (fun i => M 14 i 0 0) (l) v := by
  funext i
  unfold up4 upd
  by_cases h : i = l <;> simp [h]
theorem rd_m_pres {l : Nat} {K : Int32 → Prop} (hl : l < 3) : RdA (H z S M) 314 0 (Int32.ofNat (l)) K ↔ K (M 14 l 0 0) := (RdA_of cm_pres (by omega) (by rw [H_1]; omega) (by omega) (by omega)).trans (by rw [ix_pres (M := M) hl])
theorem wr_m_pres {l : Nat} {K : Hp → Prop} {v : Int32} (hl : l < 3) : WrA (H z S M) 314 0 (Int32.ofNat (l)) v K ↔ K (H z S (up4 M 14 l 0 0  v)) := by
  rw [WrA_of cm_pres (by omega) (by rw [H_1]; omega) (by omega) (by omega)]
  have E : setHp (H z S M) 314 (.inl (0, 3, .inl (upd (fun i => M 14 i 0 0) (l) v))) = H z S (up4 M 14 l 0 0  v) := set_M (o := 8) (by omega) (by unfold cellM; simp [iu_pres hl]) (fun k h => up4_nk (fun h2 => h (by rw [h2]; rfl)))
  exact ⟨fun h => (congrArg K E).mp h, fun h => (congrArg K E).mpr h⟩
theorem ix_since {l : Nat} (hl : l < 3) : M 15 ((l)) 0 0 = M 15 l 0 0 := by
  rfl
theorem cm_since : (H z S M).2 315 = .inl (0, 3, .inl (fun i => M 15 i 0 0)) := H_M (o := 9) (by omega)
theorem iu_since {l : Nat} (hl : l < 3) {v : Int32} : (fun i => (up4 M 15 l 0 0 v) 15 i 0 0) = upd (fun i => M 15 i 0 0) (l) v := by
  funext i
  unfold up4 upd
  by_cases h : i = l <;> simp [h]
theorem rd_m_since {l : Nat} {K : Int32 → Prop} (hl : l < 3) : RdA (H z S M) 315 0 (Int32.ofNat (l)) K ↔ K (M 15 l 0 0) := (RdA_of cm_since (by omega) (by rw [H_1]; omega) (by omega) (by omega)).trans (by rw [ix_since (M := M) hl])
theorem wr_m_since {l : Nat} {K : Hp → Prop} {v : Int32} (hl : l < 3) : WrA (H z S M) 315 0 (Int32.ofNat (l)) v K ↔ K (H z S (up4 M 15 l 0 0  v)) := by
  rw [WrA_of cm_since (by omega) (by rw [H_1]; omega) (by omega) (by omega)]
  have E : setHp (H z S M) 315 (.inl (0, 3, .inl (upd (fun i => M 15 i 0 0) (l) v))) = H z S (up4 M 15 l 0 0  v) := set_M (o := 9) (by omega) (by unfold cellM; simp [iu_since hl]) (fun k h => up4_nk (fun h2 => h (by rw [h2]; rfl)))
  exact ⟨fun h => (congrArg K E).mp h, fun h => (congrArg K E).mpr h⟩
theorem ix_mast {l : Nat} (hl : l < 3) : M 16 ((l)) 0 0 = M 16 l 0 0 := by
  rfl
theorem cm_mast : (H z S M).2 316 = .inl (0, 3, .inl (fun i => M 16 i 0 0)) := H_M (o := 10) (by omega)
theorem iu_mast {l : Nat} (hl : l < 3) {v : Int32} : (fun i => (up4 M 16 l 0 0 v) 16 i 0 0) = upd (fun i => M 16 i 0 0) (l) v := by
  funext i
  unfold up4 upd
  by_cases h : i = l <;> simp [h]
theorem rd_m_mast {l : Nat} {K : Int32 → Prop} (hl : l < 3) : RdA (H z S M) 316 0 (Int32.ofNat (l)) K ↔ K (M 16 l 0 0) := (RdA_of cm_mast (by omega) (by rw [H_1]; omega) (by omega) (by omega)).trans (by rw [ix_mast (M := M) hl])
theorem wr_m_mast {l : Nat} {K : Hp → Prop} {v : Int32} (hl : l < 3) : WrA (H z S M) 316 0 (Int32.ofNat (l)) v K ↔ K (H z S (up4 M 16 l 0 0  v)) := by
  rw [WrA_of cm_mast (by omega) (by rw [H_1]; omega) (by omega) (by omega)]
  have E : setHp (H z S M) 316 (.inl (0, 3, .inl (upd (fun i => M 16 i 0 0) (l) v))) = H z S (up4 M 16 l 0 0  v) := set_M (o := 10) (by omega) (by unfold cellM; simp [iu_mast hl]) (fun k h => up4_nk (fun h2 => h (by rw [h2]; rfl)))
  exact ⟨fun h => (congrArg K E).mp h, fun h => (congrArg K E).mpr h⟩
theorem ix_prio {l : Nat} (hl : l < 3) : M 17 ((l)) 0 0 = M 17 l 0 0 := by
  rfl
theorem cm_prio : (H z S M).2 317 = .inl (0, 3, .inl (fun i => M 17 i 0 0)) := H_M (o := 11) (by omega)
theorem iu_prio {l : Nat} (hl : l < 3) {v : Int32} : (fun i => (up4 M 17 l 0 0 v) 17 i 0 0) = upd (fun i => M 17 i 0 0) (l) v := by
  funext i
  unfold up4 upd
  by_cases h : i = l <;> simp [h]
theorem rd_m_prio {l : Nat} {K : Int32 → Prop} (hl : l < 3) : RdA (H z S M) 317 0 (Int32.ofNat (l)) K ↔ K (M 17 l 0 0) := (RdA_of cm_prio (by omega) (by rw [H_1]; omega) (by omega) (by omega)).trans (by rw [ix_prio (M := M) hl])
theorem wr_m_prio {l : Nat} {K : Hp → Prop} {v : Int32} (hl : l < 3) : WrA (H z S M) 317 0 (Int32.ofNat (l)) v K ↔ K (H z S (up4 M 17 l 0 0  v)) := by
  rw [WrA_of cm_prio (by omega) (by rw [H_1]; omega) (by omega) (by omega)]
  have E : setHp (H z S M) 317 (.inl (0, 3, .inl (upd (fun i => M 17 i 0 0) (l) v))) = H z S (up4 M 17 l 0 0  v) := set_M (o := 11) (by omega) (by unfold cellM; simp [iu_prio hl]) (fun k h => up4_nk (fun h2 => h (by rw [h2]; rfl)))
  exact ⟨fun h => (congrArg K E).mp h, fun h => (congrArg K E).mpr h⟩
theorem ix_stor {l c s : Nat} (hl : l < 3) (hc : c < 12) (hs : s < 48) : M 29 (((48 * (12 * l + c) + s) / 576)) (((48 * (12 * l + c) + s) / 48 % 12)) (((48 * (12 * l + c) + s) % 48)) = M 29 l c s := by
  rw [show (((48 * (12 * l + c) + s) / 576)) = l by omega, show (((48 * (12 * l + c) + s) / 48 % 12)) = c by omega, show (((48 * (12 * l + c) + s) % 48)) = s by omega]
theorem cm_stor : (H z S M).2 318 = .inl (0, 1728, .inl (fun i => encE (M 29 (i / 576) (i / 48 % 12) (i % 48)))) := H_M (o := 12) (by omega)
theorem iu_stor {l c s : Nat} (hl : l < 3) (hc : c < 12) (hs : s < 48) {v : Int32} : (fun i => (up4 M 29 l c s v) 29 (i / 576) (i / 48 % 12) (i % 48)) = upd (fun i => M 29 (i / 576) (i / 48 % 12) (i % 48)) (48 * (12 * l + c) + s) v := by
  funext i
  unfold up4 upd
  by_cases h : i = 48 * (12 * l + c) + s
  · have h1 : ((48 * (12 * l + c) + s) / 576) = l ∧ ((48 * (12 * l + c) + s) / 48 % 12) = c ∧ ((48 * (12 * l + c) + s) % 48) = s := by omega
    simp [h, h1]
  · have h1 : ¬ ((i / 576) = l ∧ (i / 48 % 12) = c ∧ (i % 48) = s) := by omega
    rw [if_neg (fun h2 => h1 ⟨h2.2.1, h2.2.2.1, h2.2.2.2⟩), if_neg h]
theorem rd_m_stor {l c s : Nat} {K : Int32 → Prop} (hl : l < 3) (hc : c < 12) (hs : s < 48) : RdA (H z S M) 318 0 (Int32.ofNat (48 * (12 * l + c) + s)) K ↔ K (encE (M 29 l c s)) := (RdA_of cm_stor (by omega) (by rw [H_1]; omega) (by omega) (by omega)).trans (by rw [ix_stor (M := M) hl hc hs])
theorem iw_stor {l c s : Nat} (hl : l < 3) (hc : c < 12) (hs : s < 48) {v : Int32} : (fun i => encE ((up4 M 29 l c s v) 29 (i / 576) (i / 48 % 12) (i % 48))) = upd (fun i => encE (M 29 (i / 576) (i / 48 % 12) (i % 48))) (48 * (12 * l + c) + s) (encE v) := by
  funext i
  have h0 := congrFun (iu_stor (M := M) hl hc hs (v := v)) i
  rw [h0]
  unfold upd
  split <;> rfl
theorem wr_m_stor {l c s : Nat} {K : Hp → Prop} {v : Int32} (hl : l < 3) (hc : c < 12) (hs : s < 48) : WrA (H z S M) 318 0 (Int32.ofNat (48 * (12 * l + c) + s)) (encE v) K ↔ K (H z S (up4 M 29 l c s  v)) := by
  rw [WrA_of cm_stor (by omega) (by rw [H_1]; omega) (by omega) (by omega)]
  have E : setHp (H z S M) 318 (.inl (0, 1728, .inl (upd (fun i => encE (M 29 (i / 576) (i / 48 % 12) (i % 48))) (48 * (12 * l + c) + s) (encE v)))) = H z S (up4 M 29 l c s  v) := set_M (o := 12) (by omega) (by unfold cellM; simp [iw_stor hl hc hs]) (fun k h => up4_nk (fun h2 => h (by rw [h2]; rfl)))
  exact ⟨fun h => (congrArg K E).mp h, fun h => (congrArg K E).mpr h⟩
theorem wr_m_stor_i {l c s : Nat} {K : Hp → Prop} {v : Int32} (hl : l < 3) (hc : c < 12) (hs : s < 48) (hv : encE v = v) : WrA (H z S M) 318 0 (Int32.ofNat (48 * (12 * l + c) + s)) v K ↔ K (H z S (up4 M 29 l c s  v)) := by
  have h := wr_m_stor (z := z) (S := S) (M := M) (K := K) (v := v) hl hc hs
  rw [hv] at h
  exact h
theorem ix_delay {l c : Nat} (hl : l < 3) (hc : c < 12) : M 22 (((12 * l + c) / 12)) (((12 * l + c) % 12)) 0 = M 22 l c 0 := by
  rw [show (((12 * l + c) / 12)) = l by omega, show (((12 * l + c) % 12)) = c by omega]
theorem cm_delay : (H z S M).2 319 = .inl (0, 36, .inl (fun i => M 22 (i / 12) (i % 12) 0)) := H_M (o := 13) (by omega)
theorem iu_delay {l c : Nat} (hl : l < 3) (hc : c < 12) {v : Int32} : (fun i => (up4 M 22 l c 0 v) 22 (i / 12) (i % 12) 0) = upd (fun i => M 22 (i / 12) (i % 12) 0) (12 * l + c) v := by
  funext i
  unfold up4 upd
  by_cases h : i = 12 * l + c
  · have h1 : ((12 * l + c) / 12) = l ∧ ((12 * l + c) % 12) = c := by omega
    simp [h, h1]
  · have h1 : ¬ ((i / 12) = l ∧ (i % 12) = c) := by omega
    rw [if_neg (fun h2 => h1 ⟨h2.2.1, h2.2.2.1⟩), if_neg h]
theorem rd_m_delay {l c : Nat} {K : Int32 → Prop} (hl : l < 3) (hc : c < 12) : RdA (H z S M) 319 0 (Int32.ofNat (12 * l + c)) K ↔ K (M 22 l c 0) := (RdA_of cm_delay (by omega) (by rw [H_1]; omega) (by omega) (by omega)).trans (by rw [ix_delay (M := M) hl hc])
theorem wr_m_delay {l c : Nat} {K : Hp → Prop} {v : Int32} (hl : l < 3) (hc : c < 12) : WrA (H z S M) 319 0 (Int32.ofNat (12 * l + c)) v K ↔ K (H z S (up4 M 22 l c 0  v)) := by
  rw [WrA_of cm_delay (by omega) (by rw [H_1]; omega) (by omega) (by omega)]
  have E : setHp (H z S M) 319 (.inl (0, 36, .inl (upd (fun i => M 22 (i / 12) (i % 12) 0) (12 * l + c) v))) = H z S (up4 M 22 l c 0  v) := set_M (o := 13) (by omega) (by unfold cellM; simp [iu_delay hl hc]) (fun k h => up4_nk (fun h2 => h (by rw [h2]; rfl)))
  exact ⟨fun h => (congrArg K E).mp h, fun h => (congrArg K E).mpr h⟩
theorem ix_ftime {l c : Nat} (hl : l < 3) (hc : c < 12) : M 23 (((12 * l + c) / 12)) (((12 * l + c) % 12)) 0 = M 23 l c 0 := by
  rw [show (((12 * l + c) / 12)) = l by omega, show (((12 * l + c) % 12)) = c by omega]
theorem cm_ftime : (H z S M).2 320 = .inl (0, 36, .inl (fun i => M 23 (i / 12) (i % 12) 0)) := H_M (o := 14) (by omega)
theorem iu_ftime {l c : Nat} (hl : l < 3) (hc : c < 12) {v : Int32} : (fun i => (up4 M 23 l c 0 v) 23 (i / 12) (i % 12) 0) = upd (fun i => M 23 (i / 12) (i % 12) 0) (12 * l + c) v := by
  funext i
  unfold up4 upd
  by_cases h : i = 12 * l + c
  · have h1 : ((12 * l + c) / 12) = l ∧ ((12 * l + c) % 12) = c := by omega
    simp [h, h1]
  · have h1 : ¬ ((i / 12) = l ∧ (i % 12) = c) := by omega
    rw [if_neg (fun h2 => h1 ⟨h2.2.1, h2.2.2.1⟩), if_neg h]
theorem rd_m_ftime {l c : Nat} {K : Int32 → Prop} (hl : l < 3) (hc : c < 12) : RdA (H z S M) 320 0 (Int32.ofNat (12 * l + c)) K ↔ K (M 23 l c 0) := (RdA_of cm_ftime (by omega) (by rw [H_1]; omega) (by omega) (by omega)).trans (by rw [ix_ftime (M := M) hl hc])
theorem wr_m_ftime {l c : Nat} {K : Hp → Prop} {v : Int32} (hl : l < 3) (hc : c < 12) : WrA (H z S M) 320 0 (Int32.ofNat (12 * l + c)) v K ↔ K (H z S (up4 M 23 l c 0  v)) := by
  rw [WrA_of cm_ftime (by omega) (by rw [H_1]; omega) (by omega) (by omega)]
  have E : setHp (H z S M) 320 (.inl (0, 36, .inl (upd (fun i => M 23 (i / 12) (i % 12) 0) (12 * l + c) v))) = H z S (up4 M 23 l c 0  v) := set_M (o := 14) (by omega) (by unfold cellM; simp [iu_ftime hl hc]) (fun k h => up4_nk (fun h2 => h (by rw [h2]; rfl)))
  exact ⟨fun h => (congrArg K E).mp h, fun h => (congrArg K E).mpr h⟩
theorem ix_follow {l c : Nat} (hl : l < 3) (hc : c < 12) : M 24 (((12 * l + c) / 12)) (((12 * l + c) % 12)) 0 = M 24 l c 0 := by
  rw [show (((12 * l + c) / 12)) = l by omega, show (((12 * l + c) % 12)) = c by omega]
theorem cm_follow : (H z S M).2 321 = .inl (0, 36, .inl (fun i => M 24 (i / 12) (i % 12) 0)) := H_M (o := 15) (by omega)
theorem iu_follow {l c : Nat} (hl : l < 3) (hc : c < 12) {v : Int32} : (fun i => (up4 M 24 l c 0 v) 24 (i / 12) (i % 12) 0) = upd (fun i => M 24 (i / 12) (i % 12) 0) (12 * l + c) v := by
  funext i
  unfold up4 upd
  by_cases h : i = 12 * l + c
  · have h1 : ((12 * l + c) / 12) = l ∧ ((12 * l + c) % 12) = c := by omega
    simp [h, h1]
  · have h1 : ¬ ((i / 12) = l ∧ (i % 12) = c) := by omega
    rw [if_neg (fun h2 => h1 ⟨h2.2.1, h2.2.2.1⟩), if_neg h]
theorem rd_m_follow {l c : Nat} {K : Int32 → Prop} (hl : l < 3) (hc : c < 12) : RdA (H z S M) 321 0 (Int32.ofNat (12 * l + c)) K ↔ K (M 24 l c 0) := (RdA_of cm_follow (by omega) (by rw [H_1]; omega) (by omega) (by omega)).trans (by rw [ix_follow (M := M) hl hc])
theorem wr_m_follow {l c : Nat} {K : Hp → Prop} {v : Int32} (hl : l < 3) (hc : c < 12) : WrA (H z S M) 321 0 (Int32.ofNat (12 * l + c)) v K ↔ K (H z S (up4 M 24 l c 0  v)) := by
  rw [WrA_of cm_follow (by omega) (by rw [H_1]; omega) (by omega) (by omega)]
  have E : setHp (H z S M) 321 (.inl (0, 36, .inl (upd (fun i => M 24 (i / 12) (i % 12) 0) (12 * l + c) v))) = H z S (up4 M 24 l c 0  v) := set_M (o := 15) (by omega) (by unfold cellM; simp [iu_follow hl hc]) (fun k h => up4_nk (fun h2 => h (by rw [h2]; rfl)))
  exact ⟨fun h => (congrArg K E).mp h, fun h => (congrArg K E).mpr h⟩
theorem ix_link {l c : Nat} (hl : l < 3) (hc : c < 12) : M 25 (((12 * l + c) / 12)) (((12 * l + c) % 12)) 0 = M 25 l c 0 := by
  rw [show (((12 * l + c) / 12)) = l by omega, show (((12 * l + c) % 12)) = c by omega]
theorem cm_link : (H z S M).2 322 = .inl (0, 36, .inl (fun i => M 25 (i / 12) (i % 12) 0)) := H_M (o := 16) (by omega)
theorem iu_link {l c : Nat} (hl : l < 3) (hc : c < 12) {v : Int32} : (fun i => (up4 M 25 l c 0 v) 25 (i / 12) (i % 12) 0) = upd (fun i => M 25 (i / 12) (i % 12) 0) (12 * l + c) v := by
  funext i
  unfold up4 upd
  by_cases h : i = 12 * l + c
  · have h1 : ((12 * l + c) / 12) = l ∧ ((12 * l + c) % 12) = c := by omega
    simp [h, h1]
  · have h1 : ¬ ((i / 12) = l ∧ (i % 12) = c) := by omega
    rw [if_neg (fun h2 => h1 ⟨h2.2.1, h2.2.2.1⟩), if_neg h]
theorem rd_m_link {l c : Nat} {K : Int32 → Prop} (hl : l < 3) (hc : c < 12) : RdA (H z S M) 322 0 (Int32.ofNat (12 * l + c)) K ↔ K (M 25 l c 0) := (RdA_of cm_link (by omega) (by rw [H_1]; omega) (by omega) (by omega)).trans (by rw [ix_link (M := M) hl hc])
theorem wr_m_link {l c : Nat} {K : Hp → Prop} {v : Int32} (hl : l < 3) (hc : c < 12) : WrA (H z S M) 322 0 (Int32.ofNat (12 * l + c)) v K ↔ K (H z S (up4 M 25 l c 0  v)) := by
  rw [WrA_of cm_link (by omega) (by rw [H_1]; omega) (by omega) (by omega)]
  have E : setHp (H z S M) 322 (.inl (0, 36, .inl (upd (fun i => M 25 (i / 12) (i % 12) 0) (12 * l + c) v))) = H z S (up4 M 25 l c 0  v) := set_M (o := 16) (by omega) (by unfold cellM; simp [iu_link hl hc]) (fun k h => up4_nk (fun h2 => h (by rw [h2]; rfl)))
  exact ⟨fun h => (congrArg K E).mp h, fun h => (congrArg K E).mpr h⟩
theorem ix_codeof {l c : Nat} (hl : l < 3) (hc : c < 12) : M 26 (((12 * l + c) / 12)) (((12 * l + c) % 12)) 0 = M 26 l c 0 := by
  rw [show (((12 * l + c) / 12)) = l by omega, show (((12 * l + c) % 12)) = c by omega]
theorem cm_codeof : (H z S M).2 323 = .inl (0, 36, .inl (fun i => M 26 (i / 12) (i % 12) 0)) := H_M (o := 17) (by omega)
theorem iu_codeof {l c : Nat} (hl : l < 3) (hc : c < 12) {v : Int32} : (fun i => (up4 M 26 l c 0 v) 26 (i / 12) (i % 12) 0) = upd (fun i => M 26 (i / 12) (i % 12) 0) (12 * l + c) v := by
  funext i
  unfold up4 upd
  by_cases h : i = 12 * l + c
  · have h1 : ((12 * l + c) / 12) = l ∧ ((12 * l + c) % 12) = c := by omega
    simp [h, h1]
  · have h1 : ¬ ((i / 12) = l ∧ (i % 12) = c) := by omega
    rw [if_neg (fun h2 => h1 ⟨h2.2.1, h2.2.2.1⟩), if_neg h]
theorem rd_m_codeof {l c : Nat} {K : Int32 → Prop} (hl : l < 3) (hc : c < 12) : RdA (H z S M) 323 0 (Int32.ofNat (12 * l + c)) K ↔ K (M 26 l c 0) := (RdA_of cm_codeof (by omega) (by rw [H_1]; omega) (by omega) (by omega)).trans (by rw [ix_codeof (M := M) hl hc])
theorem wr_m_codeof {l c : Nat} {K : Hp → Prop} {v : Int32} (hl : l < 3) (hc : c < 12) : WrA (H z S M) 323 0 (Int32.ofNat (12 * l + c)) v K ↔ K (H z S (up4 M 26 l c 0  v)) := by
  rw [WrA_of cm_codeof (by omega) (by rw [H_1]; omega) (by omega) (by omega)]
  have E : setHp (H z S M) 323 (.inl (0, 36, .inl (upd (fun i => M 26 (i / 12) (i % 12) 0) (12 * l + c) v))) = H z S (up4 M 26 l c 0  v) := set_M (o := 17) (by omega) (by unfold cellM; simp [iu_codeof hl hc]) (fun k h => up4_nk (fun h2 => h (by rw [h2]; rfl)))
  exact ⟨fun h => (congrArg K E).mp h, fun h => (congrArg K E).mpr h⟩
theorem ix_asserts {l c : Nat} (hl : l < 3) (hc : c < 12) : M 27 (((12 * l + c) / 12)) (((12 * l + c) % 12)) 0 = M 27 l c 0 := by
  rw [show (((12 * l + c) / 12)) = l by omega, show (((12 * l + c) % 12)) = c by omega]
theorem cm_asserts : (H z S M).2 324 = .inl (2, 36, .inl (fun i => M 27 (i / 12) (i % 12) 0)) := H_M (o := 18) (by omega)
theorem iu_asserts {l c : Nat} (hl : l < 3) (hc : c < 12) {v : Int32} : (fun i => (up4 M 27 l c 0 v) 27 (i / 12) (i % 12) 0) = upd (fun i => M 27 (i / 12) (i % 12) 0) (12 * l + c) v := by
  funext i
  unfold up4 upd
  by_cases h : i = 12 * l + c
  · have h1 : ((12 * l + c) / 12) = l ∧ ((12 * l + c) % 12) = c := by omega
    simp [h, h1]
  · have h1 : ¬ ((i / 12) = l ∧ (i % 12) = c) := by omega
    rw [if_neg (fun h2 => h1 ⟨h2.2.1, h2.2.2.1⟩), if_neg h]
theorem rd_m_asserts {l c : Nat} {K : Int32 → Prop} (hl : l < 3) (hc : c < 12) : RdA (H z S M) 324 2 (Int32.ofNat (12 * l + c)) K ↔ K (M 27 l c 0) := (RdA_of cm_asserts (by omega) (by rw [H_1]; omega) (by omega) (by omega)).trans (by rw [ix_asserts (M := M) hl hc])
theorem wr_m_asserts {l c : Nat} {K : Hp → Prop} {v : Int32} (hl : l < 3) (hc : c < 12) : WrA (H z S M) 324 2 (Int32.ofNat (12 * l + c)) v K ↔ K (H z S (up4 M 27 l c 0  v)) := by
  rw [WrA_of cm_asserts (by omega) (by rw [H_1]; omega) (by omega) (by omega)]
  have E : setHp (H z S M) 324 (.inl (2, 36, .inl (upd (fun i => M 27 (i / 12) (i % 12) 0) (12 * l + c) v))) = H z S (up4 M 27 l c 0  v) := set_M (o := 18) (by omega) (by unfold cellM; simp [iu_asserts hl hc]) (fun k h => up4_nk (fun h2 => h (by rw [h2]; rfl)))
  exact ⟨fun h => (congrArg K E).mp h, fun h => (congrArg K E).mpr h⟩
theorem ix_hasfade {l s : Nat} (hl : l < 3) (hs : s < 48) : M 40 (((48 * l + s) / 48)) 0 (((48 * l + s) % 48)) = M 40 l 0 s := by
  rw [show (((48 * l + s) / 48)) = l by omega, show (((48 * l + s) % 48)) = s by omega]
theorem cm_hasfade : (H z S M).2 325 = .inl (2, 144, .inl (fun i => M 40 (i / 48) 0 (i % 48))) := H_M (o := 19) (by omega)
theorem iu_hasfade {l s : Nat} (hl : l < 3) (hs : s < 48) {v : Int32} : (fun i => (up4 M 40 l 0 s v) 40 (i / 48) 0 (i % 48)) = upd (fun i => M 40 (i / 48) 0 (i % 48)) (48 * l + s) v := by
  funext i
  unfold up4 upd
  by_cases h : i = 48 * l + s
  · have h1 : ((48 * l + s) / 48) = l ∧ ((48 * l + s) % 48) = s := by omega
    simp [h, h1]
  · have h1 : ¬ ((i / 48) = l ∧ (i % 48) = s) := by omega
    rw [if_neg (fun h2 => h1 ⟨h2.2.1, h2.2.2.2⟩), if_neg h]
theorem rd_m_hasfade {l s : Nat} {K : Int32 → Prop} (hl : l < 3) (hs : s < 48) : RdA (H z S M) 325 2 (Int32.ofNat (48 * l + s)) K ↔ K (M 40 l 0 s) := (RdA_of cm_hasfade (by omega) (by rw [H_1]; omega) (by omega) (by omega)).trans (by rw [ix_hasfade (M := M) hl hs])
theorem wr_m_hasfade {l s : Nat} {K : Hp → Prop} {v : Int32} (hl : l < 3) (hs : s < 48) : WrA (H z S M) 325 2 (Int32.ofNat (48 * l + s)) v K ↔ K (H z S (up4 M 40 l 0 s  v)) := by
  rw [WrA_of cm_hasfade (by omega) (by rw [H_1]; omega) (by omega) (by omega)]
  have E : setHp (H z S M) 325 (.inl (2, 144, .inl (upd (fun i => M 40 (i / 48) 0 (i % 48)) (48 * l + s) v))) = H z S (up4 M 40 l 0 s  v) := set_M (o := 19) (by omega) (by unfold cellM; simp [iu_hasfade hl hs]) (fun k h => up4_nk (fun h2 => h (by rw [h2]; rfl)))
  exact ⟨fun h => (congrArg K E).mp h, fun h => (congrArg K E).mpr h⟩
theorem ix_isnew {s : Nat} (hs : s < 48) : M 44 0 0 ((s)) = M 44 0 0 s := by
  rfl
theorem cm_isnew : (H z S M).2 326 = .inl (2, 48, .inl (fun i => M 44 0 0 i)) := H_M (o := 20) (by omega)
theorem iu_isnew {s : Nat} (hs : s < 48) {v : Int32} : (fun i => (up4 M 44 0 0 s v) 44 0 0 i) = upd (fun i => M 44 0 0 i) (s) v := by
  funext i
  unfold up4 upd
  by_cases h : i = s <;> simp [h]
theorem rd_m_isnew {s : Nat} {K : Int32 → Prop} (hs : s < 48) : RdA (H z S M) 326 2 (Int32.ofNat (s)) K ↔ K (M 44 0 0 s) := (RdA_of cm_isnew (by omega) (by rw [H_1]; omega) (by omega) (by omega)).trans (by rw [ix_isnew (M := M) hs])
theorem wr_m_isnew {s : Nat} {K : Hp → Prop} {v : Int32} (hs : s < 48) : WrA (H z S M) 326 2 (Int32.ofNat (s)) v K ↔ K (H z S (up4 M 44 0 0 s  v)) := by
  rw [WrA_of cm_isnew (by omega) (by rw [H_1]; omega) (by omega) (by omega)]
  have E : setHp (H z S M) 326 (.inl (2, 48, .inl (upd (fun i => M 44 0 0 i) (s) v))) = H z S (up4 M 44 0 0 s  v) := set_M (o := 20) (by omega) (by unfold cellM; simp [iu_isnew hs]) (fun k h => up4_nk (fun h2 => h (by rw [h2]; rfl)))
  exact ⟨fun h => (congrArg K E).mp h, fun h => (congrArg K E).mpr h⟩
theorem ix_fstart {l s : Nat} (hl : l < 3) (hs : s < 48) : M 19 (((48 * l + s) / 48)) 0 (((48 * l + s) % 48)) = M 19 l 0 s := by
  rw [show (((48 * l + s) / 48)) = l by omega, show (((48 * l + s) % 48)) = s by omega]
theorem cm_fstart : (H z S M).2 327 = .inl (0, 144, .inl (fun i => M 19 (i / 48) 0 (i % 48))) := H_M (o := 21) (by omega)
theorem iu_fstart {l s : Nat} (hl : l < 3) (hs : s < 48) {v : Int32} : (fun i => (up4 M 19 l 0 s v) 19 (i / 48) 0 (i % 48)) = upd (fun i => M 19 (i / 48) 0 (i % 48)) (48 * l + s) v := by
  funext i
  unfold up4 upd
  by_cases h : i = 48 * l + s
  · have h1 : ((48 * l + s) / 48) = l ∧ ((48 * l + s) % 48) = s := by omega
    simp [h, h1]
  · have h1 : ¬ ((i / 48) = l ∧ (i % 48) = s) := by omega
    rw [if_neg (fun h2 => h1 ⟨h2.2.1, h2.2.2.2⟩), if_neg h]
theorem rd_m_fstart {l s : Nat} {K : Int32 → Prop} (hl : l < 3) (hs : s < 48) : RdA (H z S M) 327 0 (Int32.ofNat (48 * l + s)) K ↔ K (M 19 l 0 s) := (RdA_of cm_fstart (by omega) (by rw [H_1]; omega) (by omega) (by omega)).trans (by rw [ix_fstart (M := M) hl hs])
theorem wr_m_fstart {l s : Nat} {K : Hp → Prop} {v : Int32} (hl : l < 3) (hs : s < 48) : WrA (H z S M) 327 0 (Int32.ofNat (48 * l + s)) v K ↔ K (H z S (up4 M 19 l 0 s  v)) := by
  rw [WrA_of cm_fstart (by omega) (by rw [H_1]; omega) (by omega) (by omega)]
  have E : setHp (H z S M) 327 (.inl (0, 144, .inl (upd (fun i => M 19 (i / 48) 0 (i % 48)) (48 * l + s) v))) = H z S (up4 M 19 l 0 s  v) := set_M (o := 21) (by omega) (by unfold cellM; simp [iu_fstart hl hs]) (fun k h => up4_nk (fun h2 => h (by rw [h2]; rfl)))
  exact ⟨fun h => (congrArg K E).mp h, fun h => (congrArg K E).mpr h⟩
theorem ix_ftakes {l s : Nat} (hl : l < 3) (hs : s < 48) : M 20 (((48 * l + s) / 48)) 0 (((48 * l + s) % 48)) = M 20 l 0 s := by
  rw [show (((48 * l + s) / 48)) = l by omega, show (((48 * l + s) % 48)) = s by omega]
theorem cm_ftakes : (H z S M).2 328 = .inl (0, 144, .inl (fun i => M 20 (i / 48) 0 (i % 48))) := H_M (o := 22) (by omega)
theorem iu_ftakes {l s : Nat} (hl : l < 3) (hs : s < 48) {v : Int32} : (fun i => (up4 M 20 l 0 s v) 20 (i / 48) 0 (i % 48)) = upd (fun i => M 20 (i / 48) 0 (i % 48)) (48 * l + s) v := by
  funext i
  unfold up4 upd
  by_cases h : i = 48 * l + s
  · have h1 : ((48 * l + s) / 48) = l ∧ ((48 * l + s) % 48) = s := by omega
    simp [h, h1]
  · have h1 : ¬ ((i / 48) = l ∧ (i % 48) = s) := by omega
    rw [if_neg (fun h2 => h1 ⟨h2.2.1, h2.2.2.2⟩), if_neg h]
theorem rd_m_ftakes {l s : Nat} {K : Int32 → Prop} (hl : l < 3) (hs : s < 48) : RdA (H z S M) 328 0 (Int32.ofNat (48 * l + s)) K ↔ K (M 20 l 0 s) := (RdA_of cm_ftakes (by omega) (by rw [H_1]; omega) (by omega) (by omega)).trans (by rw [ix_ftakes (M := M) hl hs])
theorem wr_m_ftakes {l s : Nat} {K : Hp → Prop} {v : Int32} (hl : l < 3) (hs : s < 48) : WrA (H z S M) 328 0 (Int32.ofNat (48 * l + s)) v K ↔ K (H z S (up4 M 20 l 0 s  v)) := by
  rw [WrA_of cm_ftakes (by omega) (by rw [H_1]; omega) (by omega) (by omega)]
  have E : setHp (H z S M) 328 (.inl (0, 144, .inl (upd (fun i => M 20 (i / 48) 0 (i % 48)) (48 * l + s) v))) = H z S (up4 M 20 l 0 s  v) := set_M (o := 22) (by omega) (by unfold cellM; simp [iu_ftakes hl hs]) (fun k h => up4_nk (fun h2 => h (by rw [h2]; rfl)))
  exact ⟨fun h => (congrArg K E).mp h, fun h => (congrArg K E).mpr h⟩
theorem ix_forder {l s : Nat} (hl : l < 3) (hs : s < 48) : M 41 (((48 * l + s) / 48)) 0 (((48 * l + s) % 48)) = M 41 l 0 s := by
  rw [show (((48 * l + s) / 48)) = l by omega, show (((48 * l + s) % 48)) = s by omega]
theorem cm_forder : (H z S M).2 329 = .inl (0, 144, .inl (fun i => M 41 (i / 48) 0 (i % 48))) := H_M (o := 23) (by omega)
theorem iu_forder {l s : Nat} (hl : l < 3) (hs : s < 48) {v : Int32} : (fun i => (up4 M 41 l 0 s v) 41 (i / 48) 0 (i % 48)) = upd (fun i => M 41 (i / 48) 0 (i % 48)) (48 * l + s) v := by
  funext i
  unfold up4 upd
  by_cases h : i = 48 * l + s
  · have h1 : ((48 * l + s) / 48) = l ∧ ((48 * l + s) % 48) = s := by omega
    simp [h, h1]
  · have h1 : ¬ ((i / 48) = l ∧ (i % 48) = s) := by omega
    rw [if_neg (fun h2 => h1 ⟨h2.2.1, h2.2.2.2⟩), if_neg h]
theorem rd_m_forder {l s : Nat} {K : Int32 → Prop} (hl : l < 3) (hs : s < 48) : RdA (H z S M) 329 0 (Int32.ofNat (48 * l + s)) K ↔ K (M 41 l 0 s) := (RdA_of cm_forder (by omega) (by rw [H_1]; omega) (by omega) (by omega)).trans (by rw [ix_forder (M := M) hl hs])
theorem wr_m_forder {l s : Nat} {K : Hp → Prop} {v : Int32} (hl : l < 3) (hs : s < 48) : WrA (H z S M) 329 0 (Int32.ofNat (48 * l + s)) v K ↔ K (H z S (up4 M 41 l 0 s  v)) := by
  rw [WrA_of cm_forder (by omega) (by rw [H_1]; omega) (by omega) (by omega)]
  have E : setHp (H z S M) 329 (.inl (0, 144, .inl (upd (fun i => M 41 (i / 48) 0 (i % 48)) (48 * l + s) v))) = H z S (up4 M 41 l 0 s  v) := set_M (o := 23) (by omega) (by unfold cellM; simp [iu_forder hl hs]) (fun k h => up4_nk (fun h2 => h (by rw [h2]; rfl)))
  exact ⟨fun h => (congrArg K E).mp h, fun h => (congrArg K E).mpr h⟩
theorem ix_ffrom {l s : Nat} (hl : l < 3) (hs : s < 48) : M 18 (((48 * l + s) / 48)) 0 (((48 * l + s) % 48)) = M 18 l 0 s := by
  rw [show (((48 * l + s) / 48)) = l by omega, show (((48 * l + s) % 48)) = s by omega]
theorem cm_ffrom : (H z S M).2 330 = .inl (1, 144, .inr (.inr (.inl (fun i => (M 18 (i / 48) 0 (i % 48)).toUInt32)))) := H_M (o := 24) (by omega)
theorem iu_ffrom {l s : Nat} (hl : l < 3) (hs : s < 48) {v : Int32} : (fun i => (up4 M 18 l 0 s v) 18 (i / 48) 0 (i % 48)) = upd (fun i => M 18 (i / 48) 0 (i % 48)) (48 * l + s) v := by
  funext i
  unfold up4 upd
  by_cases h : i = 48 * l + s
  · have h1 : ((48 * l + s) / 48) = l ∧ ((48 * l + s) % 48) = s := by omega
    simp [h, h1]
  · have h1 : ¬ ((i / 48) = l ∧ (i % 48) = s) := by omega
    rw [if_neg (fun h2 => h1 ⟨h2.2.1, h2.2.2.2⟩), if_neg h]
theorem rd_m_ffrom {l s : Nat} {K : UInt32 → Prop} (hl : l < 3) (hs : s < 48) : RdN (H z S M) 330 (Int32.ofNat (48 * l + s)) K ↔ K (M 18 l 0 s).toUInt32 := (RdN_of cm_ffrom (by omega) (by rw [H_1]; omega) (by omega) (by omega)).trans (by rw [ix_ffrom (M := M) hl hs])
theorem iw_ffrom {l s : Nat} (hl : l < 3) (hs : s < 48) {v : UInt32} : (fun i => ((up4 M 18 l 0 s v.toInt32) 18 (i / 48) 0 (i % 48)).toUInt32) = vf_upd (fun i => (M 18 (i / 48) 0 (i % 48)).toUInt32) (48 * l + s) v := by
  funext i
  have h0 := congrFun (iu_ffrom (M := M) hl hs (v := v.toInt32)) i
  rw [h0]
  unfold upd vf_upd
  split
  · simp
  · rfl
theorem wr_m_ffrom {l s : Nat} {K : Hp → Prop} {v : UInt32} (hl : l < 3) (hs : s < 48) : WrN (H z S M) 330 (Int32.ofNat (48 * l + s)) v K ↔ K (H z S (up4 M 18 l 0 s  v.toInt32)) := by
  rw [WrN_of cm_ffrom (by omega) (by rw [H_1]; omega) (by omega) (by omega)]
  have E : setHp (H z S M) 330 (.inl (1, 144, .inr (.inr (.inl (vf_upd (fun i => (M 18 (i / 48) 0 (i % 48)).toUInt32) (48 * l + s) v))))) = H z S (up4 M 18 l 0 s  v.toInt32) := set_M (o := 24) (by omega) (by unfold cellM; simp [iw_ffrom hl hs]) (fun k h => up4_nk (fun h2 => h (by rw [h2]; rfl)))
  exact ⟨fun h => (congrArg K E).mp h, fun h => (congrArg K E).mpr h⟩
theorem ix_begun {s : Nat} (hs : s < 48) : M 45 0 0 ((s)) = M 45 0 0 s := by
  rfl
theorem cm_begun : (H z S M).2 331 = .inl (1, 48, .inr (.inr (.inl (fun i => (M 45 0 0 i).toUInt32)))) := H_M (o := 25) (by omega)
theorem iu_begun {s : Nat} (hs : s < 48) {v : Int32} : (fun i => (up4 M 45 0 0 s v) 45 0 0 i) = upd (fun i => M 45 0 0 i) (s) v := by
  funext i
  unfold up4 upd
  by_cases h : i = s <;> simp [h]
theorem rd_m_begun {s : Nat} {K : UInt32 → Prop} (hs : s < 48) : RdN (H z S M) 331 (Int32.ofNat (s)) K ↔ K (M 45 0 0 s).toUInt32 := (RdN_of cm_begun (by omega) (by rw [H_1]; omega) (by omega) (by omega)).trans (by rw [ix_begun (M := M) hs])
theorem iw_begun {s : Nat} (hs : s < 48) {v : UInt32} : (fun i => ((up4 M 45 0 0 s v.toInt32) 45 0 0 i).toUInt32) = vf_upd (fun i => (M 45 0 0 i).toUInt32) (s) v := by
  funext i
  have h0 := congrFun (iu_begun (M := M) hs (v := v.toInt32)) i
  rw [h0]
  unfold upd vf_upd
  split
  · simp
  · rfl
theorem wr_m_begun {s : Nat} {K : Hp → Prop} {v : UInt32} (hs : s < 48) : WrN (H z S M) 331 (Int32.ofNat (s)) v K ↔ K (H z S (up4 M 45 0 0 s  v.toInt32)) := by
  rw [WrN_of cm_begun (by omega) (by rw [H_1]; omega) (by omega) (by omega)]
  have E : setHp (H z S M) 331 (.inl (1, 48, .inr (.inr (.inl (vf_upd (fun i => (M 45 0 0 i).toUInt32) (s) v))))) = H z S (up4 M 45 0 0 s  v.toInt32) := set_M (o := 25) (by omega) (by unfold cellM; simp [iw_begun hs]) (fun k h => up4_nk (fun h2 => h (by rw [h2]; rfl)))
  exact ⟨fun h => (congrArg K E).mp h, fun h => (congrArg K E).mpr h⟩
theorem ix_egroup {l : Nat} (hl : l < 4) : M 30 ((l)) 0 0 = M 30 l 0 0 := by
  rfl
theorem cm_egroup : (H z S M).2 332 = .inl (0, 4, .inl (fun i => M 30 i 0 0)) := H_M (o := 26) (by omega)
theorem iu_egroup {l : Nat} (hl : l < 4) {v : Int32} : (fun i => (up4 M 30 l 0 0 v) 30 i 0 0) = upd (fun i => M 30 i 0 0) (l) v := by
  funext i
  unfold up4 upd
  by_cases h : i = l <;> simp [h]
theorem rd_m_egroup {l : Nat} {K : Int32 → Prop} (hl : l < 4) : RdA (H z S M) 332 0 (Int32.ofNat (l)) K ↔ K (M 30 l 0 0) := (RdA_of cm_egroup (by omega) (by rw [H_1]; omega) (by omega) (by omega)).trans (by rw [ix_egroup (M := M) hl])
theorem wr_m_egroup {l : Nat} {K : Hp → Prop} {v : Int32} (hl : l < 4) : WrA (H z S M) 332 0 (Int32.ofNat (l)) v K ↔ K (H z S (up4 M 30 l 0 0  v)) := by
  rw [WrA_of cm_egroup (by omega) (by rw [H_1]; omega) (by omega) (by omega)]
  have E : setHp (H z S M) 332 (.inl (0, 4, .inl (upd (fun i => M 30 i 0 0) (l) v))) = H z S (up4 M 30 l 0 0  v) := set_M (o := 26) (by omega) (by unfold cellM; simp [iu_egroup hl]) (fun k h => up4_nk (fun h2 => h (by rw [h2]; rfl)))
  exact ⟨fun h => (congrArg K E).mp h, fun h => (congrArg K E).mpr h⟩
theorem ix_ekind {l : Nat} (hl : l < 4) : M 31 ((l)) 0 0 = M 31 l 0 0 := by
  rfl
theorem cm_ekind : (H z S M).2 333 = .inl (0, 4, .inl (fun i => M 31 i 0 0)) := H_M (o := 27) (by omega)
theorem iu_ekind {l : Nat} (hl : l < 4) {v : Int32} : (fun i => (up4 M 31 l 0 0 v) 31 i 0 0) = upd (fun i => M 31 i 0 0) (l) v := by
  funext i
  unfold up4 upd
  by_cases h : i = l <;> simp [h]
theorem rd_m_ekind {l : Nat} {K : Int32 → Prop} (hl : l < 4) : RdA (H z S M) 333 0 (Int32.ofNat (l)) K ↔ K (M 31 l 0 0) := (RdA_of cm_ekind (by omega) (by rw [H_1]; omega) (by omega) (by omega)).trans (by rw [ix_ekind (M := M) hl])
theorem wr_m_ekind {l : Nat} {K : Hp → Prop} {v : Int32} (hl : l < 4) : WrA (H z S M) 333 0 (Int32.ofNat (l)) v K ↔ K (H z S (up4 M 31 l 0 0  v)) := by
  rw [WrA_of cm_ekind (by omega) (by rw [H_1]; omega) (by omega) (by omega)]
  have E : setHp (H z S M) 333 (.inl (0, 4, .inl (upd (fun i => M 31 i 0 0) (l) v))) = H z S (up4 M 31 l 0 0  v) := set_M (o := 27) (by omega) (by unfold cellM; simp [iu_ekind hl]) (fun k h => up4_nk (fun h2 => h (by rw [h2]; rfl)))
  exact ⟨fun h => (congrArg K E).mp h, fun h => (congrArg K E).mpr h⟩
theorem ix_eshape {l : Nat} (hl : l < 4) : M 32 ((l)) 0 0 = M 32 l 0 0 := by
  rfl
theorem cm_eshape : (H z S M).2 334 = .inl (0, 4, .inl (fun i => M 32 i 0 0)) := H_M (o := 28) (by omega)
theorem iu_eshape {l : Nat} (hl : l < 4) {v : Int32} : (fun i => (up4 M 32 l 0 0 v) 32 i 0 0) = upd (fun i => M 32 i 0 0) (l) v := by
  funext i
  unfold up4 upd
  by_cases h : i = l <;> simp [h]
theorem rd_m_eshape {l : Nat} {K : Int32 → Prop} (hl : l < 4) : RdA (H z S M) 334 0 (Int32.ofNat (l)) K ↔ K (M 32 l 0 0) := (RdA_of cm_eshape (by omega) (by rw [H_1]; omega) (by omega) (by omega)).trans (by rw [ix_eshape (M := M) hl])
theorem wr_m_eshape {l : Nat} {K : Hp → Prop} {v : Int32} (hl : l < 4) : WrA (H z S M) 334 0 (Int32.ofNat (l)) v K ↔ K (H z S (up4 M 32 l 0 0  v)) := by
  rw [WrA_of cm_eshape (by omega) (by rw [H_1]; omega) (by omega) (by omega)]
  have E : setHp (H z S M) 334 (.inl (0, 4, .inl (upd (fun i => M 32 i 0 0) (l) v))) = H z S (up4 M 32 l 0 0  v) := set_M (o := 28) (by omega) (by unfold cellM; simp [iu_eshape hl]) (fun k h => up4_nk (fun h2 => h (by rw [h2]; rfl)))
  exact ⟨fun h => (congrArg K E).mp h, fun h => (congrArg K E).mpr h⟩
theorem ix_esize {l : Nat} (hl : l < 4) : M 33 ((l)) 0 0 = M 33 l 0 0 := by
  rfl
theorem cm_esize : (H z S M).2 335 = .inl (0, 4, .inl (fun i => M 33 i 0 0)) := H_M (o := 29) (by omega)
theorem iu_esize {l : Nat} (hl : l < 4) {v : Int32} : (fun i => (up4 M 33 l 0 0 v) 33 i 0 0) = upd (fun i => M 33 i 0 0) (l) v := by
  funext i
  unfold up4 upd
  by_cases h : i = l <;> simp [h]
theorem rd_m_esize {l : Nat} {K : Int32 → Prop} (hl : l < 4) : RdA (H z S M) 335 0 (Int32.ofNat (l)) K ↔ K (M 33 l 0 0) := (RdA_of cm_esize (by omega) (by rw [H_1]; omega) (by omega) (by omega)).trans (by rw [ix_esize (M := M) hl])
theorem wr_m_esize {l : Nat} {K : Hp → Prop} {v : Int32} (hl : l < 4) : WrA (H z S M) 335 0 (Int32.ofNat (l)) v K ↔ K (H z S (up4 M 33 l 0 0  v)) := by
  rw [WrA_of cm_esize (by omega) (by rw [H_1]; omega) (by omega) (by omega)]
  have E : setHp (H z S M) 335 (.inl (0, 4, .inl (upd (fun i => M 33 i 0 0) (l) v))) = H z S (up4 M 33 l 0 0  v) := set_M (o := 29) (by omega) (by unfold cellM; simp [iu_esize hl]) (fun k h => up4_nk (fun h2 => h (by rw [h2]; rfl)))
  exact ⟨fun h => (congrArg K E).mp h, fun h => (congrArg K E).mpr h⟩
theorem ix_eperiod {l : Nat} (hl : l < 4) : M 34 ((l)) 0 0 = M 34 l 0 0 := by
  rfl
theorem cm_eperiod : (H z S M).2 336 = .inl (0, 4, .inl (fun i => M 34 i 0 0)) := H_M (o := 30) (by omega)
theorem iu_eperiod {l : Nat} (hl : l < 4) {v : Int32} : (fun i => (up4 M 34 l 0 0 v) 34 i 0 0) = upd (fun i => M 34 i 0 0) (l) v := by
  funext i
  unfold up4 upd
  by_cases h : i = l <;> simp [h]
theorem rd_m_eperiod {l : Nat} {K : Int32 → Prop} (hl : l < 4) : RdA (H z S M) 336 0 (Int32.ofNat (l)) K ↔ K (M 34 l 0 0) := (RdA_of cm_eperiod (by omega) (by rw [H_1]; omega) (by omega) (by omega)).trans (by rw [ix_eperiod (M := M) hl])
theorem wr_m_eperiod {l : Nat} {K : Hp → Prop} {v : Int32} (hl : l < 4) : WrA (H z S M) 336 0 (Int32.ofNat (l)) v K ↔ K (H z S (up4 M 34 l 0 0  v)) := by
  rw [WrA_of cm_eperiod (by omega) (by rw [H_1]; omega) (by omega) (by omega)]
  have E : setHp (H z S M) 336 (.inl (0, 4, .inl (upd (fun i => M 34 i 0 0) (l) v))) = H z S (up4 M 34 l 0 0  v) := set_M (o := 30) (by omega) (by unfold cellM; simp [iu_eperiod hl]) (fun k h => up4_nk (fun h2 => h (by rw [h2]; rfl)))
  exact ⟨fun h => (congrArg K E).mp h, fun h => (congrArg K E).mpr h⟩
theorem ix_espread {l : Nat} (hl : l < 4) : M 35 ((l)) 0 0 = M 35 l 0 0 := by
  rfl
theorem cm_espread : (H z S M).2 337 = .inl (0, 4, .inl (fun i => M 35 i 0 0)) := H_M (o := 31) (by omega)
theorem iu_espread {l : Nat} (hl : l < 4) {v : Int32} : (fun i => (up4 M 35 l 0 0 v) 35 i 0 0) = upd (fun i => M 35 i 0 0) (l) v := by
  funext i
  unfold up4 upd
  by_cases h : i = l <;> simp [h]
theorem rd_m_espread {l : Nat} {K : Int32 → Prop} (hl : l < 4) : RdA (H z S M) 337 0 (Int32.ofNat (l)) K ↔ K (M 35 l 0 0) := (RdA_of cm_espread (by omega) (by rw [H_1]; omega) (by omega) (by omega)).trans (by rw [ix_espread (M := M) hl])
theorem wr_m_espread {l : Nat} {K : Hp → Prop} {v : Int32} (hl : l < 4) : WrA (H z S M) 337 0 (Int32.ofNat (l)) v K ↔ K (H z S (up4 M 35 l 0 0  v)) := by
  rw [WrA_of cm_espread (by omega) (by rw [H_1]; omega) (by omega) (by omega)]
  have E : setHp (H z S M) 337 (.inl (0, 4, .inl (upd (fun i => M 35 i 0 0) (l) v))) = H z S (up4 M 35 l 0 0  v) := set_M (o := 31) (by omega) (by unfold cellM; simp [iu_espread hl]) (fun k h => up4_nk (fun h2 => h (by rw [h2]; rfl)))
  exact ⟨fun h => (congrArg K E).mp h, fun h => (congrArg K E).mpr h⟩
theorem ix_estart {l : Nat} (hl : l < 4) : M 43 ((l)) 0 0 = M 43 l 0 0 := by
  rfl
theorem cm_estart : (H z S M).2 338 = .inl (0, 4, .inl (fun i => M 43 i 0 0)) := H_M (o := 32) (by omega)
theorem iu_estart {l : Nat} (hl : l < 4) {v : Int32} : (fun i => (up4 M 43 l 0 0 v) 43 i 0 0) = upd (fun i => M 43 i 0 0) (l) v := by
  funext i
  unfold up4 upd
  by_cases h : i = l <;> simp [h]
theorem rd_m_estart {l : Nat} {K : Int32 → Prop} (hl : l < 4) : RdA (H z S M) 338 0 (Int32.ofNat (l)) K ↔ K (M 43 l 0 0) := (RdA_of cm_estart (by omega) (by rw [H_1]; omega) (by omega) (by omega)).trans (by rw [ix_estart (M := M) hl])
theorem wr_m_estart {l : Nat} {K : Hp → Prop} {v : Int32} (hl : l < 4) : WrA (H z S M) 338 0 (Int32.ofNat (l)) v K ↔ K (H z S (up4 M 43 l 0 0  v)) := by
  rw [WrA_of cm_estart (by omega) (by rw [H_1]; omega) (by omega) (by omega)]
  have E : setHp (H z S M) 338 (.inl (0, 4, .inl (upd (fun i => M 43 i 0 0) (l) v))) = H z S (up4 M 43 l 0 0  v) := set_M (o := 32) (by omega) (by unfold cellM; simp [iu_estart hl]) (fun k h => up4_nk (fun h2 => h (by rw [h2]; rfl)))
  exact ⟨fun h => (congrArg K E).mp h, fun h => (congrArg K E).mpr h⟩
theorem ix_runs {l : Nat} (hl : l < 4) : M 42 ((l)) 0 0 = M 42 l 0 0 := by
  rfl
theorem cm_runs : (H z S M).2 339 = .inl (2, 4, .inl (fun i => M 42 i 0 0)) := H_M (o := 33) (by omega)
theorem iu_runs {l : Nat} (hl : l < 4) {v : Int32} : (fun i => (up4 M 42 l 0 0 v) 42 i 0 0) = upd (fun i => M 42 i 0 0) (l) v := by
  funext i
  unfold up4 upd
  by_cases h : i = l <;> simp [h]
theorem rd_m_runs {l : Nat} {K : Int32 → Prop} (hl : l < 4) : RdA (H z S M) 339 2 (Int32.ofNat (l)) K ↔ K (M 42 l 0 0) := (RdA_of cm_runs (by omega) (by rw [H_1]; omega) (by omega) (by omega)).trans (by rw [ix_runs (M := M) hl])
theorem wr_m_runs {l : Nat} {K : Hp → Prop} {v : Int32} (hl : l < 4) : WrA (H z S M) 339 2 (Int32.ofNat (l)) v K ↔ K (H z S (up4 M 42 l 0 0  v)) := by
  rw [WrA_of cm_runs (by omega) (by rw [H_1]; omega) (by omega) (by omega)]
  have E : setHp (H z S M) 339 (.inl (2, 4, .inl (upd (fun i => M 42 i 0 0) (l) v))) = H z S (up4 M 42 l 0 0  v) := set_M (o := 33) (by omega) (by unfold cellM; simp [iu_runs hl]) (fun k h => up4_nk (fun h2 => h (by rw [h2]; rfl)))
  exact ⟨fun h => (congrArg K E).mp h, fun h => (congrArg K E).mpr h⟩
theorem rd_m_stork {k : Nat} {K : Int32 → Prop} (hk : k < 1728) : RdA (H z S M) 318 0 (Int32.ofNat k) K ↔ K (encE (M 29 (k / 576) (k / 48 % 12) (k % 48))) := RdA_of cm_stor (by omega) (by rw [H_1]; omega) hk (by omega)
end PICM
