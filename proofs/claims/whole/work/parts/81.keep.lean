/-! the invariant is kept. Its first part laid by a program (ids of each piece) -/
section KEEP
variable {A : St} {B k l c s : Nat} {v : Int32} {f : Nat → Int32}
theorem I1.up (h : I1 A) (hk : k ≠ 0 ∧ k ≠ 2 ∧ k ≠ 3 ∧ k ≠ 4) : I1 (up4 A k l c s v) := by
  have e0 : up4 A k l c s v 0 = A 0 := up4_nk (by omega)
  have e2 : up4 A k l c s v 2 = A 2 := up4_nk (by omega)
  have e3 : up4 A k l c s v 3 = A 3 := up4_nk (by omega)
  have e4 : up4 A k l c s v 4 = A 4 := up4_nk (by omega)
  unfold I1 at h ⊢
  rw [e0, e2, e3, e4]
  exact h
theorem I1.row (h : I1 A) (hk : k ≠ 0 ∧ k ≠ 2 ∧ k ≠ 3 ∧ k ≠ 4) : I1 (setR A k l c f) := by
  have e0 : setR A k l c f 0 = A 0 := setR_nk (by omega)
  have e2 : setR A k l c f 2 = A 2 := setR_nk (by omega)
  have e3 : setR A k l c f 3 = A 3 := setR_nk (by omega)
  have e4 : setR A k l c f 4 = A 4 := setR_nk (by omega)
  unfold I1 at h ⊢
  rw [e0, e2, e3, e4]
  exact h
theorem I2.up (h : I2 A) (hk : k ≠ 5 ∧ k ≠ 6 ∧ k ≠ 7) : I2 (up4 A k l c s v) := by
  have e5 : up4 A k l c s v 5 = A 5 := up4_nk (by omega)
  have e6 : up4 A k l c s v 6 = A 6 := up4_nk (by omega)
  have e7 : up4 A k l c s v 7 = A 7 := up4_nk (by omega)
  unfold I2 at h ⊢
  rw [e5, e6, e7]
  exact h
theorem I2.row (h : I2 A) (hk : k ≠ 5 ∧ k ≠ 6 ∧ k ≠ 7) : I2 (setR A k l c f) := by
  have e5 : setR A k l c f 5 = A 5 := setR_nk (by omega)
  have e6 : setR A k l c f 6 = A 6 := setR_nk (by omega)
  have e7 : setR A k l c f 7 = A 7 := setR_nk (by omega)
  unfold I2 at h ⊢
  rw [e5, e6, e7]
  exact h
theorem I3.up (h : I3 A) (hk : k ≠ 8 ∧ k ≠ 9) : I3 (up4 A k l c s v) := by
  have e8 : up4 A k l c s v 8 = A 8 := up4_nk (by omega)
  have e9 : up4 A k l c s v 9 = A 9 := up4_nk (by omega)
  unfold I3 at h ⊢
  rw [e8, e9]
  exact h
theorem I3.row (h : I3 A) (hk : k ≠ 8 ∧ k ≠ 9) : I3 (setR A k l c f) := by
  have e8 : setR A k l c f 8 = A 8 := setR_nk (by omega)
  have e9 : setR A k l c f 9 = A 9 := setR_nk (by omega)
  unfold I3 at h ⊢
  rw [e8, e9]
  exact h
theorem I4.up (h : I4 A) (hk : k ≠ 10 ∧ k ≠ 30 ∧ k ≠ 32 ∧ k ≠ 34) : I4 (up4 A k l c s v) := by
  have e10 : up4 A k l c s v 10 = A 10 := up4_nk (by omega)
  have e30 : up4 A k l c s v 30 = A 30 := up4_nk (by omega)
  have e32 : up4 A k l c s v 32 = A 32 := up4_nk (by omega)
  have e34 : up4 A k l c s v 34 = A 34 := up4_nk (by omega)
  unfold I4 at h ⊢
  rw [e10, e30, e32, e34]
  exact h
theorem I4.row (h : I4 A) (hk : k ≠ 10 ∧ k ≠ 30 ∧ k ≠ 32 ∧ k ≠ 34) : I4 (setR A k l c f) := by
  have e10 : setR A k l c f 10 = A 10 := setR_nk (by omega)
  have e30 : setR A k l c f 30 = A 30 := setR_nk (by omega)
  have e32 : setR A k l c f 32 = A 32 := setR_nk (by omega)
  have e34 : setR A k l c f 34 = A 34 := setR_nk (by omega)
  unfold I4 at h ⊢
  rw [e10, e30, e32, e34]
  exact h
theorem I5.up (h : I5 A B) (hk : k ≠ 11 ∧ k ≠ 12 ∧ k ≠ 1) : I5 (up4 A k l c s v) B := by
  have e11 : up4 A k l c s v 11 = A 11 := up4_nk (by omega)
  have e12 : up4 A k l c s v 12 = A 12 := up4_nk (by omega)
  have e1 : up4 A k l c s v 1 = A 1 := up4_nk (by omega)
  unfold I5 at h ⊢
  rw [e11, e12, e1]
  exact h
theorem I5.row (h : I5 A B) (hk : k ≠ 11 ∧ k ≠ 12 ∧ k ≠ 1) : I5 (setR A k l c f) B := by
  have e11 : setR A k l c f 11 = A 11 := setR_nk (by omega)
  have e12 : setR A k l c f 12 = A 12 := setR_nk (by omega)
  have e1 : setR A k l c f 1 = A 1 := setR_nk (by omega)
  unfold I5 at h ⊢
  rw [e11, e12, e1]
  exact h
theorem I6.up (h : I6 A) (hk : k ≠ 13 ∧ k ≠ 14 ∧ k ≠ 29) : I6 (up4 A k l c s v) := by
  have e13 : up4 A k l c s v 13 = A 13 := up4_nk (by omega)
  have e14 : up4 A k l c s v 14 = A 14 := up4_nk (by omega)
  have e29 : up4 A k l c s v 29 = A 29 := up4_nk (by omega)
  unfold I6 at h ⊢
  rw [e13, e14, e29]
  exact h
theorem I6.row (h : I6 A) (hk : k ≠ 13 ∧ k ≠ 14 ∧ k ≠ 29) : I6 (setR A k l c f) := by
  have e13 : setR A k l c f 13 = A 13 := setR_nk (by omega)
  have e14 : setR A k l c f 14 = A 14 := setR_nk (by omega)
  have e29 : setR A k l c f 29 = A 29 := setR_nk (by omega)
  unfold I6 at h ⊢
  rw [e13, e14, e29]
  exact h
theorem I7.up (h : I7 A B) (hk : k ≠ 18 ∧ k ≠ 19 ∧ k ≠ 20 ∧ k ≠ 21 ∧ k ≠ 29 ∧ k ≠ 14) : I7 (up4 A k l c s v) B := by
  have e18 : up4 A k l c s v 18 = A 18 := up4_nk (by omega)
  have e19 : up4 A k l c s v 19 = A 19 := up4_nk (by omega)
  have e20 : up4 A k l c s v 20 = A 20 := up4_nk (by omega)
  have e21 : up4 A k l c s v 21 = A 21 := up4_nk (by omega)
  have e29 : up4 A k l c s v 29 = A 29 := up4_nk (by omega)
  have e14 : up4 A k l c s v 14 = A 14 := up4_nk (by omega)
  unfold I7 at h ⊢
  rw [e18, e19, e20, e21, e29, e14]
  exact h
theorem I7.row (h : I7 A B) (hk : k ≠ 18 ∧ k ≠ 19 ∧ k ≠ 20 ∧ k ≠ 21 ∧ k ≠ 29 ∧ k ≠ 14) : I7 (setR A k l c f) B := by
  have e18 : setR A k l c f 18 = A 18 := setR_nk (by omega)
  have e19 : setR A k l c f 19 = A 19 := setR_nk (by omega)
  have e20 : setR A k l c f 20 = A 20 := setR_nk (by omega)
  have e21 : setR A k l c f 21 = A 21 := setR_nk (by omega)
  have e29 : setR A k l c f 29 = A 29 := setR_nk (by omega)
  have e14 : setR A k l c f 14 = A 14 := setR_nk (by omega)
  unfold I7 at h ⊢
  rw [e18, e19, e20, e21, e29, e14]
  exact h
theorem I8.up (h : I8 A) (hk : k ≠ 16 ∧ k ≠ 17 ∧ k ≠ 22 ∧ k ≠ 23 ∧ k ≠ 25 ∧ k ≠ 27) : I8 (up4 A k l c s v) := by
  have e16 : up4 A k l c s v 16 = A 16 := up4_nk (by omega)
  have e17 : up4 A k l c s v 17 = A 17 := up4_nk (by omega)
  have e22 : up4 A k l c s v 22 = A 22 := up4_nk (by omega)
  have e23 : up4 A k l c s v 23 = A 23 := up4_nk (by omega)
  have e25 : up4 A k l c s v 25 = A 25 := up4_nk (by omega)
  have e27 : up4 A k l c s v 27 = A 27 := up4_nk (by omega)
  unfold I8 at h ⊢
  rw [e16, e17, e22, e23, e25, e27]
  exact h
theorem I8.row (h : I8 A) (hk : k ≠ 16 ∧ k ≠ 17 ∧ k ≠ 22 ∧ k ≠ 23 ∧ k ≠ 25 ∧ k ≠ 27) : I8 (setR A k l c f) := by
  have e16 : setR A k l c f 16 = A 16 := setR_nk (by omega)
  have e17 : setR A k l c f 17 = A 17 := setR_nk (by omega)
  have e22 : setR A k l c f 22 = A 22 := setR_nk (by omega)
  have e23 : setR A k l c f 23 = A 23 := setR_nk (by omega)
  have e25 : setR A k l c f 25 = A 25 := setR_nk (by omega)
  have e27 : setR A k l c f 27 = A 27 := setR_nk (by omega)
  unfold I8 at h ⊢
  rw [e16, e17, e22, e23, e25, e27]
  exact h
theorem I9.up (h : I9 A) (hk : k ≠ 28 ∧ k ≠ 29) : I9 (up4 A k l c s v) := by
  have e28 : up4 A k l c s v 28 = A 28 := up4_nk (by omega)
  have e29 : up4 A k l c s v 29 = A 29 := up4_nk (by omega)
  unfold I9 at h ⊢
  rw [e28, e29]
  exact h
theorem I9.row (h : I9 A) (hk : k ≠ 28 ∧ k ≠ 29) : I9 (setR A k l c f) := by
  have e28 : setR A k l c f 28 = A 28 := setR_nk (by omega)
  have e29 : setR A k l c f 29 = A 29 := setR_nk (by omega)
  unfold I9 at h ⊢
  rw [e28, e29]
  exact h

/-- an Inv whose fields k are written, those of its pieces aside that are proved anew -/
theorem Inv.free (h : Inv A B) (hk : k = 15 ∨ k = 24 ∨ k = 26 ∨ k = 31 ∨ k = 33 ∨ k = 35 ∨ k = 36) : Inv (up4 A k l c s v) B := by
  obtain ⟨h1, h2, h3, h4, h5, h6, h7, h8, h9⟩ := h
  exact ⟨h1.up (by omega), h2.up (by omega), h3.up (by omega), h4.up (by omega), h5.up (by omega), h6.up (by omega), h7.up (by omega), h8.up (by omega), h9.up (by omega)⟩
theorem cnt_acc {x d : Int32} : ∀ (m j : Nat) (a : Int32), cntF f x m j (a + d) = cntF f x m j a + d := by
  intro m
  induction m with
  | zero => intro j a; rfl
  | succ m ih =>
    intro j a
    unfold cntF
    rw [← ih]
    congr 1
    rw [Int32.add_assoc, Int32.add_comm d, ← Int32.add_assoc]
theorem cnt_congr {g : Nat → Int32} {x : Int32} : ∀ (m j : Nat) (a : Int32), (∀ t, j ≤ t → t < j + m → f t = g t) → cntF f x m j a = cntF g x m j a := by
  intro m
  induction m with
  | zero => intro j a _; rfl
  | succ m ih =>
    intro j a h
    unfold cntF
    rw [h j (by omega) (by omega), ih (j + 1) _ (fun t h1 h2 => h t (by omega) (by omega))]
theorem cnt_none {x : Int32} : ∀ (m j : Nat) (a : Int32), (∀ t, j ≤ t → t < j + m → f t = x) → cntF f x m j a = a := by
  intro m
  induction m with
  | zero => intro j a _; rfl
  | succ m ih =>
    intro j a h
    unfold cntF
    rw [h j (by omega) (by omega), if_pos rfl, Int32.add_zero]
    exact ih (j + 1) _ (fun t h1 h2 => h t (by omega) (by omega))
theorem cnt_upd {x y : Int32} : ∀ (m j : Nat) (a : Int32), j ≤ s → s < j + m → cntF (upd f s y) x m j a + (if f s = x then 0 else 1) = cntF f x m j a + (if y = x then 0 else 1) := by
  intro m
  induction m with
  | zero => intro j a h1 h2; omega
  | succ m ih =>
    intro j a h1 h2
    unfold cntF
    by_cases hj : j = s
    · subst hj
      have e : ∀ a, cntF (upd f j y) x m (j + 1) a = cntF f x m (j + 1) a := fun a => cnt_congr m (j + 1) a (fun t h3 h4 => by unfold upd; rw [if_neg (by omega)])
      have e2 : upd f j y j = y := by unfold upd; rw [if_pos rfl]
      rw [e, e2, cnt_acc, cnt_acc, Int32.add_assoc, Int32.add_assoc, Int32.add_comm (if y = x then 0 else 1)]
    · have e2 : upd f s y j = f j := by unfold upd; rw [if_neg hj]
      rw [e2]
      exact ih (j + 1) _ (by omega) (by omega)
theorem srcN_congr {E F : Nat → Nat → Int32} : ∀ n, (∀ c, c < n → E c s = F c s) → srcN E n s = srcN F n s := by
  intro n
  induction n with
  | zero => intro _; rfl
  | succ n ih =>
    intro h
    unfold srcN
    rw [h n (by omega), ih (fun c hc => h c (by omega))]
theorem srcN_mono {E F : Nat → Nat → Int32} : ∀ n, n < 2147483648 → (∀ c, c < n → F c s = -1 → E c s = -1) → ¬ srcN E n s = -1 → ¬ srcN F n s = -1 := by
  intro n
  induction n with
  | zero => intro _ _ h; exact h
  | succ n ih =>
    intro hn h
    unfold srcN
    by_cases h1 : F n s = -1
    · rw [if_pos h1, if_pos (h n (by omega) h1)]
      exact ih (by omega) (fun c hc => h c (by omega))
    · rw [if_neg h1, n_neg (by omega)]
      exact fun _ => id
theorem srcI_mono {E F : Nat → Nat → Int32} {p : Int32} (hp : okP p) (h : ∀ c, c < 12 → F c s = -1 → E c s = -1) (h2 : ¬ srcI E p s = -1) : ¬ srcI F p s = -1 := by
  obtain ⟨n, hn, e1, e2⟩ := okP_pred hp
  unfold srcI at h2 ⊢
  rw [e2] at h2 ⊢
  exact srcN_mono n (by omega) (fun c hc => h c (by omega)) h2
/-- the programmer -/
theorem I3.put {y : Int32} (h : I3 A) (hs : s < 48) (hy : entV y) (hne : ¬ y = -1) : I3 (putP A s y) := by
  obtain ⟨h1, h2⟩ := h
  have er : putP A s y 9 0 0 = upd (A 9 0 0) s y := by unfold putP; rw [up4_row, up4_nk (by omega)]
  have ec : putP A s y 8 0 0 0 = if A 9 0 0 s = -1 then A 8 0 0 0 + 1 else A 8 0 0 0 := by unfold putP; rw [up4_nk (by omega), up4_eq]
  refine ⟨fun t ht => ?_, ?_⟩
  · rw [er]
    unfold upd
    split
    · exact hy
    · exact h1 t ht
  · have hc := cnt_upd (f := A 9 0 0) (x := -1) (y := y) (s := s) 48 0 0 (by omega) (by omega)
    rw [if_neg hne] at hc
    rw [er, ec, h2]
    split
    · rename_i h3
      rw [if_pos h3, Int32.add_zero] at hc
      exact hc.symm
    · rename_i h3
      rw [if_neg h3] at hc
      exact ((Int32.add_left_inj _).mp hc).symm
theorem I3.drop (h : I3 A) (hs : s < 48) : I3 (dropP A s) := by
  obtain ⟨h1, h2⟩ := h
  have er : dropP A s 9 0 0 = upd (A 9 0 0) s (-1) := by unfold dropP; rw [up4_row, up4_nk (by omega)]
  have ec : dropP A s 8 0 0 0 = if A 9 0 0 s = -1 then A 8 0 0 0 else A 8 0 0 0 - 1 := by unfold dropP; rw [up4_nk (by omega), up4_eq]
  refine ⟨fun t ht => ?_, ?_⟩
  · rw [er]
    unfold upd
    split
    · exact Or.inl rfl
    · exact h1 t ht
  · have hc := cnt_upd (f := A 9 0 0) (x := -1) (y := -1) (s := s) 48 0 0 (by omega) (by omega)
    rw [if_pos rfl, Int32.add_zero] at hc
    rw [er, ec, h2]
    split
    · rename_i h3
      rw [if_pos h3, Int32.add_zero] at hc
      exact hc.symm
    · rename_i h3
      rw [if_neg h3] at hc
      rw [← hc, Int32.add_sub_cancel]
theorem I3.emp : I3 (emptyP A) := by
  have er : emptyP A 9 0 0 = fun s => if s < 48 then -1 else A 9 0 0 s := by unfold emptyP; rw [up4_nk (by omega), setR_row]
  have ec : emptyP A 8 0 0 0 = 0 := by unfold emptyP; rw [up4_eq]
  refine ⟨fun t ht => ?_, ?_⟩
  · rw [er]
    exact Or.inl (if_pos ht)
  · rw [ec, er, cnt_none 48 0 0 (fun t _ ht => if_pos (by omega))]
theorem Inv.kput {y : Int32} (h : Inv A B) (hs : s < 48) (hy : entV y) (hne : ¬ y = -1) : Inv (putP A s y) B := by
  obtain ⟨h1, h2, h3, h4, h5, h6, h7, h8, h9⟩ := h
  have h3' := h3.put hs hy hne
  unfold putP at *
  exact ⟨(h1.up (by omega)).up (by omega), (h2.up (by omega)).up (by omega), h3', (h4.up (by omega)).up (by omega), (h5.up (by omega)).up (by omega), (h6.up (by omega)).up (by omega), (h7.up (by omega)).up (by omega), (h8.up (by omega)).up (by omega), (h9.up (by omega)).up (by omega)⟩
theorem Inv.kdrop (h : Inv A B) (hs : s < 48) : Inv (dropP A s) B := by
  obtain ⟨h1, h2, h3, h4, h5, h6, h7, h8, h9⟩ := h
  have h3' := h3.drop hs
  unfold dropP at *
  exact ⟨(h1.up (by omega)).up (by omega), (h2.up (by omega)).up (by omega), h3', (h4.up (by omega)).up (by omega), (h5.up (by omega)).up (by omega), (h6.up (by omega)).up (by omega), (h7.up (by omega)).up (by omega), (h8.up (by omega)).up (by omega), (h9.up (by omega)).up (by omega)⟩
theorem Inv.kemp (h : Inv A B) : Inv (emptyP A) B := by
  obtain ⟨h1, h2, h3, h4, h5, h6, h7, h8, h9⟩ := h
  have h3' := I3.emp (A := A)
  unfold emptyP at *
  exact ⟨(h1.row (by omega)).up (by omega), (h2.row (by omega)).up (by omega), h3', (h4.row (by omega)).up (by omega), (h5.row (by omega)).up (by omega), (h6.row (by omega)).up (by omega), (h7.row (by omega)).up (by omega), (h8.row (by omega)).up (by omega), (h9.row (by omega)).up (by omega)⟩
theorem Inv.set1 (h : Inv A B) (h1 : I1 (up4 A k l c s v)) (hk : k = 0 ∨ k = 2 ∨ k = 3 ∨ k = 4) : Inv (up4 A k l c s v) B := by
  obtain ⟨-, h2, h3, h4, h5, h6, h7, h8, h9⟩ := h
  exact ⟨h1, h2.up (by omega), h3.up (by omega), h4.up (by omega), h5.up (by omega), h6.up (by omega), h7.up (by omega), h8.up (by omega), h9.up (by omega)⟩
theorem Inv.set2 (h : Inv A B) (h2 : I2 (up4 A k l c s v)) (hk : k = 5 ∨ k = 6 ∨ k = 7) : Inv (up4 A k l c s v) B := by
  obtain ⟨h1, -, h3, h4, h5, h6, h7, h8, h9⟩ := h
  exact ⟨h1.up (by omega), h2, h3.up (by omega), h4.up (by omega), h5.up (by omega), h6.up (by omega), h7.up (by omega), h8.up (by omega), h9.up (by omega)⟩
theorem Inv.set8 (h : Inv A B) (h8 : I8 (up4 A k l c s v)) (hk : k = 16 ∨ k = 17 ∨ k = 22 ∨ k = 23 ∨ k = 25 ∨ k = 27) : Inv (up4 A k l c s v) B := by
  obtain ⟨h1, h2, h3, h4, h5, h6, h7, -, h9⟩ := h
  exact ⟨h1.up (by omega), h2.up (by omega), h3.up (by omega), h4.up (by omega), h5.up (by omega), h6.up (by omega), h7.up (by omega), h8, h9.up (by omega)⟩
theorem up4_if {k1 l1 c1 s1 : Nat} : up4 A k l c s v k1 l1 c1 s1 = if k1 = k ∧ l1 = l ∧ c1 = c ∧ s1 = s then v else A k1 l1 c1 s1 := rfl
/-- lamps -/
theorem Inv.kline (h : Inv A B) (hv : lnV v) : Inv (up4 A 1 l c s v) B := by
  obtain ⟨h1, h2, h3, h4, ⟨h5, h5b, h5c⟩, h6, h7, h8, h9⟩ := h
  refine ⟨h1.up (by omega), h2.up (by omega), h3.up (by omega), h4.up (by omega), ⟨by rw [up4_nk (by omega)]; exact h5, by rw [up4_nk (by omega)]; exact h5b, fun l1 hl1 => ?_⟩, h6.up (by omega), h7.up (by omega), h8.up (by omega), h9.up (by omega)⟩
  rw [up4_if]
  split
  · exact hv
  · exact h5c l1 hl1
theorem Inv.addLamp {n : Nat} (h : Inv A B) (hn : n < 12) : Inv (up4 (up4 A 1 0 0 n (-1)) 0 0 0 0 (Int32.ofNat (n + 1))) B := by
  refine (h.kline (Or.inl rfl)).set1 ?_ (by omega)
  obtain ⟨h1, h2, h3⟩ := h.1
  refine ⟨⟨n + 1, by omega, up4_eq⟩, ?_, ?_⟩
  · rw [up4_nk (by omega), up4_nk (by omega)]; exact h2
  · rw [up4_nk (by omega), up4_nk (by omega), up4_nk (by omega), up4_nk (by omega)]; exact h3
theorem Inv.addGroup {n : Nat} (h : Inv A B) (hn : n < 6) : Inv (up4 A 2 0 0 0 (Int32.ofNat (n + 1))) B := by
  refine h.set1 ?_ (by omega)
  obtain ⟨h1, h2, h3⟩ := h.1
  refine ⟨?_, ⟨n + 1, by omega, up4_eq⟩, ?_⟩
  · rw [up4_nk (by omega)]; exact h1
  · rw [up4_nk (by omega), up4_nk (by omega)]; exact h3
theorem Inv.join {g n q : Nat} (h : Inv A B) (hg : g < 6) (hn : A 3 g 0 0 = Int32.ofNat n) (hn12 : n < 12) (hq : q < 12) (hne : ∀ j, j < n → ¬ A 4 g 0 j = Int32.ofNat q) : Inv (up4 (up4 A 4 g 0 n (Int32.ofNat q)) 3 g 0 0 (Int32.ofNat (n + 1))) B := by
  obtain ⟨h1, h2, h3⟩ := h.1
  have i1 : I1 (up4 (up4 A 4 g 0 n (Int32.ofNat q)) 3 g 0 0 (Int32.ofNat (n + 1))) := by
    refine ⟨?_, ?_, fun g1 hg1 => ?_⟩
    · rw [up4_nk (by omega), up4_nk (by omega)]; exact h1
    · rw [up4_nk (by omega), up4_nk (by omega)]; exact h2
    · obtain ⟨n1, a1, a2, a3, a4⟩ := h3 g1 hg1
      by_cases hgg : g1 = g
      · subst hgg
        have : n1 = n := by rw [hn] at a2; exact ((i_eq (by omega) (by omega)).mp a2).symm
        subst this
        refine ⟨n1 + 1, by omega, up4_eq, fun j hj => ?_, fun i j hij hj => ?_⟩
        · rw [up4_nk (by omega), up4_row]
          unfold upd
          by_cases hjn : j = n1
          · rw [if_pos hjn]; exact ⟨q, hq, rfl⟩
          · rw [if_neg hjn]; exact a3 j (by omega)
        · rw [up4_nk (by omega), up4_row]
          unfold upd
          rw [if_neg (by omega)]
          by_cases hjn : j = n1
          · rw [if_pos hjn]; exact hne i (by omega)
          · rw [if_neg hjn]; exact a4 i j hij (by omega)
      · refine ⟨n1, a1, ?_, ?_, ?_⟩
        · rw [up4_if, if_neg (by omega), up4_nk (by omega)]; exact a2
        · rw [up4_nk (by omega)]
          intro j hj
          rw [up4_if, if_neg (by omega)]
          exact a3 j hj
        · rw [up4_nk (by omega)]
          intro i j hij hj
          rw [up4_if, up4_if, if_neg (by omega), if_neg (by omega)]
          exact a4 i j hij hj
  obtain ⟨-, g2, g3, g4, g5, g6, g7, g8, g9⟩ := h
  exact ⟨i1, (g2.up (by omega)).up (by omega), (g3.up (by omega)).up (by omega), (g4.up (by omega)).up (by omega), (g5.up (by omega)).up (by omega), (g6.up (by omega)).up (by omega), (g7.up (by omega)).up (by omega), (g8.up (by omega)).up (by omega), (g9.up (by omega)).up (by omega)⟩
theorem Inv.mix {n : Nat} {x y : Int32} (h : Inv A B) (hn : n < 8) (hx : smal x 3) (hy : smal y 255) : Inv (up4 (up4 (up4 A 6 0 0 n x) 7 0 0 n y) 5 0 0 0 (Int32.ofNat (n + 1))) B := by
  obtain ⟨g1, ⟨h1, h2, h3⟩, g3, g4, g5, g6, g7, g8, g9⟩ := h
  refine ⟨((g1.up (by omega)).up (by omega)).up (by omega), ⟨⟨n + 1, by omega, up4_eq⟩, fun p hp => ?_, fun p hp => ?_⟩, ((g3.up (by omega)).up (by omega)).up (by omega), ((g4.up (by omega)).up (by omega)).up (by omega), ((g5.up (by omega)).up (by omega)).up (by omega), ((g6.up (by omega)).up (by omega)).up (by omega), ((g7.up (by omega)).up (by omega)).up (by omega), ((g8.up (by omega)).up (by omega)).up (by omega), ((g9.up (by omega)).up (by omega)).up (by omega)⟩
  · rw [up4_nk (by omega), up4_nk (by omega), up4_row]
    unfold upd
    split
    · exact hx
    · exact h2 p hp
  · rw [up4_nk (by omega), up4_row]
    unfold upd
    split
    · exact hy
    · rw [up4_nk (by omega)]; exact h3 p hp
theorem Inv.chg {n : Nat} {y : Int32} (h : Inv A B) (hy : smal y 255) : Inv (up4 A 7 0 0 n y) B := by
  refine h.set2 ?_ (by omega)
  obtain ⟨h1, h2, h3⟩ := h.2.1
  refine ⟨?_, ?_, fun p hp => ?_⟩
  · rw [up4_nk (by omega)]; exact h1
  · rw [up4_nk (by omega)]; exact h2
  · rw [up4_row]
    unfold upd
    split
    · exact hy
    · exact h3 p hp
end KEEP
