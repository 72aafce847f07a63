/-! the invariant is kept: record, update, release, fan, settings, effects -/
section KEEP
variable {A : St} {B k l c s n : Nat} {v : Int32} {f : Nat → Int32}
theorem I8.set (h : I8 A) (hv : (k = 16 → smal v 100) ∧ (k = 17 → smal v 9) ∧ (k = 22 → smal v 9) ∧ (k = 23 → smal v 20) ∧ (k = 25 → (v = -1 ∨ smal v 11)) ∧ (k = 27 → isZ v)) : I8 (up4 A k l c s v) := by
  obtain ⟨v1, v2, v3, v4, v5, v6⟩ := hv
  intro l1 hl1
  obtain ⟨a1, a2, a3⟩ := h l1 hl1
  refine ⟨?_, ?_, fun c1 hc1 => ?_⟩
  · rw [up4_if]; split
    · rename_i q; exact v1 q.1.symm
    · exact a1
  · rw [up4_if]; split
    · rename_i q; exact v2 q.1.symm
    · exact a2
  · obtain ⟨b1, b2, b3, b4⟩ := a3 c1 hc1
    refine ⟨?_, ?_, ?_, ?_⟩
    · rw [up4_if]; split
      · rename_i q; exact v3 q.1.symm
      · exact b1
    · rw [up4_if]; split
      · rename_i q; exact v4 q.1.symm
      · exact b2
    · rw [up4_if]; split
      · rename_i q; exact v5 q.1.symm
      · exact b3
    · rw [up4_if]; split
      · rename_i q; exact v6 q.1.symm
      · exact b4
theorem Inv.k22 (h : Inv A B) (hv : smal v 9) : Inv (up4 A 22 l c s v) B := h.set8 (h.2.2.2.2.2.2.2.1.set ⟨fun q => absurd q (by omega), fun q => absurd q (by omega), fun _ => hv, fun q => absurd q (by omega), fun q => absurd q (by omega), fun q => absurd q (by omega)⟩) (by omega)
theorem Inv.k23 (h : Inv A B) (hv : smal v 20) : Inv (up4 A 23 l c s v) B := h.set8 (h.2.2.2.2.2.2.2.1.set ⟨fun q => absurd q (by omega), fun q => absurd q (by omega), fun q => absurd q (by omega), fun _ => hv, fun q => absurd q (by omega), fun q => absurd q (by omega)⟩) (by omega)
theorem Inv.k25 (h : Inv A B) (hv : v = -1 ∨ smal v 11) : Inv (up4 A 25 l c s v) B := h.set8 (h.2.2.2.2.2.2.2.1.set ⟨fun q => absurd q (by omega), fun q => absurd q (by omega), fun q => absurd q (by omega), fun q => absurd q (by omega), fun _ => hv, fun q => absurd q (by omega)⟩) (by omega)
theorem Inv.k27 (h : Inv A B) (hv : isZ v) : Inv (up4 A 27 l c s v) B := h.set8 (h.2.2.2.2.2.2.2.1.set ⟨fun q => absurd q (by omega), fun q => absurd q (by omega), fun q => absurd q (by omega), fun q => absurd q (by omega), fun q => absurd q (by omega), fun _ => hv⟩) (by omega)
theorem Inv.k16 (h : Inv A B) (hv : smal v 100) : Inv (up4 A 16 l c s v) B := h.set8 (h.2.2.2.2.2.2.2.1.set ⟨fun _ => hv, fun q => absurd q (by omega), fun q => absurd q (by omega), fun q => absurd q (by omega), fun q => absurd q (by omega), fun q => absurd q (by omega)⟩) (by omega)
theorem Inv.k17 (h : Inv A B) (hv : smal v 9) : Inv (up4 A 17 l c s v) B := h.set8 (h.2.2.2.2.2.2.2.1.set ⟨fun q => absurd q (by omega), fun _ => hv, fun q => absurd q (by omega), fun q => absurd q (by omega), fun q => absurd q (by omega), fun q => absurd q (by omega)⟩) (by omega)
theorem Inv.letGo (h : Inv A B) : Inv (letGoA A l) B := by
  obtain ⟨h1, h2, h3, h4, h5, h6, h7, h8, h9⟩ := h
  have e21 : letGoA A l 21 = setR A 21 l 0 (fun s => if s < 48 then 0 else A 21 l 0 s) 21 := by unfold letGoA; rw [up4_nk (by omega)]
  have e14 : letGoA A l 14 = up4 A 14 l 0 0 (-1) 14 := by
    unfold letGoA
    funext l1 c1 s1
    rw [up4_if, up4_if, setR_nk (by omega)]
  have e : ∀ k, k ≠ 14 → k ≠ 21 → letGoA A l k = A k := fun k q1 q2 => by unfold letGoA; rw [up4_nk q1, setR_nk q2]
  have g6 : I6 (letGoA A l) := by
    intro l1 hl1
    obtain ⟨n, a1, a2, a3, a4⟩ := h6 l1 hl1
    refine ⟨n, a1, by rw [e 13 (by omega) (by omega)]; exact a2, ?_, by rw [e 29 (by omega) (by omega)]; exact a4⟩
    rw [e14, up4_if]
    split
    · exact Or.inl rfl
    · exact a3
  have g7 : I7 (letGoA A l) B := by
    intro l1 hl1 s hs
    obtain ⟨a1, a2, a3, a4, a5⟩ := h7 l1 hl1 s hs
    rw [e 18 (by omega) (by omega), e 19 (by omega) (by omega), e 20 (by omega) (by omega), e 29 (by omega) (by omega), e21, e14]
    refine ⟨a1, a2, a3, ?_⟩
    by_cases hq : l1 = l
    · subst hq
      rw [setR_row, if_pos hs]
      exact ⟨⟨0, by omega, rfl⟩, fun q => absurd rfl q⟩
    · have e9 : setR A 21 l 0 (fun s => if s < 48 then 0 else A 21 l 0 s) 21 l1 0 = A 21 l1 0 := by unfold setR; rw [if_neg (fun q => hq q.2.1)]
      rw [e9, up4_if, if_neg (fun q => hq q.2.1)]
      exact ⟨a4, a5⟩
  unfold letGoA at *
  exact ⟨(h1.row (by omega)).up (by omega), (h2.row (by omega)).up (by omega), (h3.row (by omega)).up (by omega), (h4.row (by omega)).up (by omega), (h5.row (by omega)).up (by omega), g6, g7, (h8.row (by omega)).up (by omega), (h9.row (by omega)).up (by omega)⟩
theorem Inv.record (h : Inv A B) (hl : l < 3) (hn : A 13 l 0 0 = Int32.ofNat n) (hn12 : n < 12) : Inv (up4 (emptyP (copyE A l n)) 13 l 0 0 (Int32.ofNat (n + 1))) B := by
  obtain ⟨h1, h2, h3, h4, h5, h6, h7, h8, h9⟩ := h
  have e29 : up4 (emptyP (copyE A l n)) 13 l 0 0 (Int32.ofNat (n + 1)) 29 = setR A 29 l n (fun s => if s < 48 then A 9 0 0 s else A 29 l n s) 29 := by
    unfold emptyP copyE
    rw [up4_nk (by omega), up4_nk (by omega), setR_nk (by omega), up4_nk (by omega)]
  have e28 : up4 (emptyP (copyE A l n)) 13 l 0 0 (Int32.ofNat (n + 1)) 28 = up4 A 28 l n 0 (A 8 0 0 0) 28 := by
    unfold emptyP copyE
    rw [up4_nk (by omega), up4_nk (by omega), setR_nk (by omega)]
    funext l1 c1 s1
    rw [up4_if, up4_if, setR_nk (by omega)]
  have e13 : up4 (emptyP (copyE A l n)) 13 l 0 0 (Int32.ofNat (n + 1)) 13 = up4 A 13 l 0 0 (Int32.ofNat (n + 1)) 13 := by
    unfold emptyP copyE
    funext l1 c1 s1
    rw [up4_if, up4_nk (by omega), setR_nk (by omega), up4_nk (by omega), setR_nk (by omega), up4_if]
  have e : ∀ k, k ≠ 8 → k ≠ 9 → k ≠ 13 → k ≠ 28 → k ≠ 29 → up4 (emptyP (copyE A l n)) 13 l 0 0 (Int32.ofNat (n + 1)) k = A k := fun k q1 q2 q3 q4 q5 => by
    unfold emptyP copyE
    rw [up4_nk q3, up4_nk q1, setR_nk q2, up4_nk q4, setR_nk q5]
  have hrow : ∀ l1 c1, ¬ (l1 = l ∧ c1 = n) → setR A 29 l n (fun s => if s < 48 then A 9 0 0 s else A 29 l n s) 29 l1 c1 = A 29 l1 c1 := fun l1 c1 q => by unfold setR; rw [if_neg (fun q2 => q q2.2)]
  refine ⟨?_, ?_, (I3.emp (A := copyE A l n)).up (by omega), ?_, ?_, fun l1 hl1 => ?_, fun l1 hl1 s hs => ?_, ?_, fun l1 hl1 c hc => ?_⟩
  · unfold emptyP copyE; exact ((((h1.row (by omega)).up (by omega)).row (by omega)).up (by omega)).up (by omega)
  · unfold emptyP copyE; exact ((((h2.row (by omega)).up (by omega)).row (by omega)).up (by omega)).up (by omega)
  · unfold emptyP copyE; exact ((((h4.row (by omega)).up (by omega)).row (by omega)).up (by omega)).up (by omega)
  · unfold emptyP copyE; exact ((((h5.row (by omega)).up (by omega)).row (by omega)).up (by omega)).up (by omega)
  · obtain ⟨n1, a1, a2, a3, a4⟩ := h6 l1 hl1
    rw [e29, e13, e 14 (by omega) (by omega) (by omega) (by omega) (by omega)]
    by_cases hq : l1 = l
    · subst hq
      have : n1 = n := by rw [hn] at a2; exact ((i_eq (by omega) (by omega)).mp a2).symm
      subst this
      refine ⟨n1 + 1, by omega, up4_eq, ?_, fun c hc1 hc2 s hs => ?_⟩
      · rcases a3 with a3 | ⟨p, hp, a3⟩
        · exact Or.inl a3
        · exact Or.inr ⟨p, by omega, a3⟩
      · rw [hrow _ _ (by omega)]
        exact a4 c (by omega) hc2 s hs
    · refine ⟨n1, a1, ?_, a3, fun c hc1 hc2 s hs => ?_⟩
      · rw [up4_if, if_neg (fun q => hq q.2.1)]; exact a2
      · rw [hrow _ _ (fun q => hq q.1)]; exact a4 c hc1 hc2 s hs
  · obtain ⟨a1, a2, a3, a4, a5⟩ := h7 l1 hl1 s hs
    rw [e29, e 14 (by omega) (by omega) (by omega) (by omega) (by omega), e 18 (by omega) (by omega) (by omega) (by omega) (by omega), e 19 (by omega) (by omega) (by omega) (by omega) (by omega), e 20 (by omega) (by omega) (by omega) (by omega) (by omega), e 21 (by omega) (by omega) (by omega) (by omega) (by omega)]
    refine ⟨a1, a2, a3, a4, fun q => ?_⟩
    have a5 := a5 q
    obtain ⟨n1, b1, b2, b3, b4⟩ := h6 l1 hl1
    have hs1 : srcI (setR A 29 l n (fun s => if s < 48 then A 9 0 0 s else A 29 l n s) 29 l1) (A 14 l1 0 0) s = srcI (A 29 l1) (A 14 l1 0 0) s := by
      rcases b3 with b3 | ⟨p, hp, b3⟩
      · rw [b3]; rfl
      · rw [b3, srcI_n (by omega), srcI_n (by omega)]
        refine srcN_congr (p + 1) (fun c hc => ?_)
        by_cases hq : l1 = l
        · subst hq
          have : n1 = n := by rw [hn] at b2; exact ((i_eq (by omega) (by omega)).mp b2).symm
          rw [hrow _ _ (by omega)]
        · rw [hrow _ _ (fun q => hq q.1)]
    rw [hs1]
    exact a5
  · unfold emptyP copyE; exact ((((h8.row (by omega)).up (by omega)).row (by omega)).up (by omega)).up (by omega)
  · rw [e28, e29]
    by_cases hq : l1 = l ∧ c = n
    · obtain ⟨rfl, rfl⟩ := hq
      rw [up4_eq, setR_row, h3.2]
      refine ⟨cnt_congr 48 0 0 (fun t _ ht => (if_pos (by omega)).symm), fun s hs => ?_⟩
      rw [if_pos hs]
      exact h3.1 s hs
    · rw [hrow _ _ hq, up4_if, if_neg (fun q => hq ⟨q.2.1, q.2.2.1⟩)]
      exact h9 l1 hl1 c hc
theorem Inv.kputE (h : Inv A B) (hl : l < 3) (hc : c < 12) (hs : s < 48) {y : Int32} (hy : entV y) (hne : ¬ y = -1) (hn : A 13 l 0 0 = Int32.ofNat n) (hcn : c < n) (hn12 : n ≤ 12) : Inv (putE A l c s y) B := by
  have hI := h
  obtain ⟨h1, h2, h3, h4, h5, h6, h7, h8, h9⟩ := h
  have er : putE A l c s y 29 l c = upd (A 29 l c) s y := by unfold putE; rw [up4_row, up4_nk (by omega)]
  have eo : ∀ l1 c1, ¬ (l1 = l ∧ c1 = c) → putE A l c s y 29 l1 c1 = A 29 l1 c1 := fun l1 c1 q => by
    unfold putE
    funext s1
    rw [up4_if, if_neg (fun q2 => q ⟨q2.2.1, q2.2.2.1⟩), up4_nk (by omega)]
  have ec : putE A l c s y 28 l c 0 = if A 29 l c s = -1 then A 28 l c 0 + 1 else A 28 l c 0 := by unfold putE; rw [up4_nk (by omega), up4_eq]
  have eco : ∀ l1 c1, ¬ (l1 = l ∧ c1 = c) → putE A l c s y 28 l1 c1 0 = A 28 l1 c1 0 := fun l1 c1 q => by
    unfold putE
    rw [up4_nk (by omega), up4_if, if_neg (fun q2 => q ⟨q2.2.1, q2.2.2.1⟩)]
  have e : ∀ k, k ≠ 28 → k ≠ 29 → putE A l c s y k = A k := fun k q1 q2 => by unfold putE; rw [up4_nk q2, up4_nk q1]
  refine ⟨?_, ?_, ?_, ?_, ?_, fun l1 hl1 => ?_, fun l1 hl1 s1 hs1 => ?_, ?_, fun l1 hl1 c1 hc1 => ?_⟩
  · unfold putE; exact (h1.up (by omega)).up (by omega)
  · unfold putE; exact (h2.up (by omega)).up (by omega)
  · unfold putE; exact (h3.up (by omega)).up (by omega)
  · unfold putE; exact (h4.up (by omega)).up (by omega)
  · unfold putE; exact (h5.up (by omega)).up (by omega)
  · obtain ⟨n1, a1, a2, a3, a4⟩ := h6 l1 hl1
    refine ⟨n1, a1, by rw [e 13 (by omega) (by omega)]; exact a2, by rw [e 14 (by omega) (by omega)]; exact a3, fun c1 hc1 hc2 s1 hs1 => ?_⟩
    rw [eo]
    · exact a4 c1 hc1 hc2 s1 hs1
    · rintro ⟨rfl, rfl⟩
      have : n1 = n := by rw [hn] at a2; exact ((i_eq (by omega) (by omega)).mp a2).symm
      omega
  · obtain ⟨a1, a2, a3, a4, a5⟩ := h7 l1 hl1 s1 hs1
    rw [e 18 (by omega) (by omega), e 19 (by omega) (by omega), e 20 (by omega) (by omega), e 21 (by omega) (by omega), e 14 (by omega) (by omega)]
    refine ⟨a1, a2, a3, a4, fun q => ?_⟩
    refine srcI_mono (E := A 29 l1) (hI.okP hl1) (fun c1 hc1 hq => ?_) (a5 q)
    by_cases hq2 : l1 = l ∧ c1 = c
    · obtain ⟨rfl, rfl⟩ := hq2
      rw [er] at hq
      unfold upd at hq
      split at hq
      · exact absurd hq hne
      · exact hq
    · rw [eo _ _ hq2] at hq
      exact hq
  · unfold putE; exact (h8.up (by omega)).up (by omega)
  · by_cases hq : l1 = l ∧ c1 = c
    · obtain ⟨rfl, rfl⟩ := hq
      obtain ⟨b1, b2⟩ := h9 l1 hl1 c1 hc1
      rw [er, ec]
      refine ⟨?_, fun t ht => ?_⟩
      · have hcc := cnt_upd (f := A 29 l1 c1) (x := -1) (y := y) (s := s) 48 0 0 (by omega) (by omega)
        rw [if_neg hne] at hcc
        rw [b1]
        split
        · rename_i q
          rw [if_pos q, Int32.add_zero] at hcc
          exact hcc.symm
        · rename_i q
          rw [if_neg q] at hcc
          exact ((Int32.add_left_inj _).mp hcc).symm
      · unfold upd
        split
        · exact hy
        · exact b2 t ht
    · rw [eo _ _ hq, eco _ _ hq]
      exact h9 l1 hl1 c1 hc1
theorem keep_lt (h : Inv A B) (hl : l < 3) (hn : A 13 l 0 0 = Int32.ofNat n) (hn12 : n ≤ 12) (hne : ¬ A 14 l 0 0 = -1) : ∃ q, q < n ∧ keepI A l s = Int32.ofNat q := by
  obtain ⟨n1, a1, a2, a3, a4⟩ := h.2.2.2.2.2.1 l hl
  have : n1 = n := by rw [hn] at a2; exact ((i_eq (by omega) (by omega)).mp a2).symm
  subst this
  rcases a3 with a3 | ⟨p, hp, a3⟩
  · exact absurd a3 hne
  · unfold keepI
    split
    · exact ⟨p, hp, a3⟩
    · rename_i q
      rw [a3, srcI_n (by omega)] at q ⊢
      rcases srcN_cases (A 29 l) s (p + 1) with h9 | ⟨k, k1, k2, k3⟩
      · exact absurd h9 q
      · exact ⟨k, by omega, k2⟩
theorem Inv.kupd (h : Inv A B) (hl : l < 3) (hs : s < 48) (hne : ¬ A 14 l 0 0 = -1) (h9 : ¬ A 9 0 0 s = -1) : Inv (updS A l s) B := by
  obtain ⟨n, hn12, hn, -, -⟩ := h.2.2.2.2.2.1 l hl
  obtain ⟨q, hq, hk⟩ := keep_lt (s := s) h hl hn hn12 hne
  have hy := h.2.2.1.1 s hs
  unfold updS
  rw [hk, i_nat (by omega)]
  split
  · exact h.kputE hl (by omega) hs hy h9 hn hq hn12
  · split
    · rename_i h2
      refine h.chg ?_
      rcases hy with hy | hy | ⟨p, hp, hy⟩
      · exact absurd hy h9
      · exact hy
      · rw [hy] at h2
        have := (i_lt (b := 256) (by omega) (by omega)).mp h2
        omega
    · exact h.kputE hl (by omega) hs hy h9 hn hq hn12
theorem updS_k (hk : k ≠ 7 ∧ k ≠ 28 ∧ k ≠ 29) : updS A l s k = A k := by
  unfold updS
  split
  · unfold putE; rw [up4_nk hk.2.2, up4_nk hk.2.1]
  · split
    · rw [up4_nk hk.1]
    · unfold putE; rw [up4_nk hk.2.2, up4_nk hk.2.1]
theorem Inv.kupdF (hl : l < 3) : ∀ (m j : Nat) (A : St), j + m = 48 → Inv A B → ¬ A 14 l 0 0 = -1 → Inv (updF l m j A) B := by
  intro m
  induction m with
  | zero => intro j A _ h _; exact h
  | succ m ih =>
    intro j A hj h hne
    unfold updF
    by_cases h9 : A 9 0 0 j = -1
    · rw [if_pos h9]; exact ih (j + 1) A (by omega) h hne
    · rw [if_neg h9]
      exact ih (j + 1) _ (by omega) (h.kupd hl (by omega) hne h9) (by rw [updS_k (by omega)]; exact hne)
theorem tdiv_b {p q j m : Int} (hp : 0 ≤ p) (hq : 0 ≤ q) (hp2 : p ≤ 255) (hq2 : q ≤ 255) (hj : 0 ≤ j) (hm : 1 ≤ m) (hjm : j ≤ m) : 0 ≤ p + (j * (q - p)).tdiv m ∧ p + (j * (q - p)).tdiv m ≤ 255 := by
  rcases Int.le_total p q with h | h
  · have h1 : 0 ≤ j * (q - p) := Int.mul_nonneg hj (by omega)
    rw [Int.tdiv_eq_ediv_of_nonneg h1]
    have h2 : 0 ≤ j * (q - p) / m := Int.ediv_nonneg h1 (by omega)
    have h3 : j * (q - p) / m ≤ q - p := by
      apply Int.ediv_le_of_le_mul (by omega)
      rw [Int.mul_comm]
      exact Int.mul_le_mul_of_nonneg_left hjm (by omega)
    omega
  · have e : j * (q - p) = -(j * (p - q)) := by rw [← Int.mul_neg]; congr 1; omega
    have h1 : 0 ≤ j * (p - q) := Int.mul_nonneg hj (by omega)
    rw [e, Int.neg_tdiv, Int.tdiv_eq_ediv_of_nonneg h1]
    have h2 : 0 ≤ j * (p - q) / m := Int.ediv_nonneg h1 (by omega)
    have h3 : j * (p - q) / m ≤ p - q := by
      apply Int.ediv_le_of_le_mul (by omega)
      rw [Int.mul_comm]
      exact Int.mul_le_mul_of_nonneg_left hjm (by omega)
    omega
theorem bmod_id {x : Int} (h1 : -2147483648 ≤ x) (h2 : x < 2147483648) : x.bmod (2 ^ 32) = x := by
  apply Int.bmod_eq_of_le <;> omega
theorem fanV_smal {x y : Int32} {j : Nat} (hx : smal x 255) (hy : smal y 255) (hj : j < n) (hn : n ≤ 12) : smal (fanV x y n j) 255 := by
  obtain ⟨p, hp, rfl⟩ := hx
  obtain ⟨q, hq, rfl⟩ := hy
  unfold fanV
  by_cases h2 : n < 2
  · rw [if_pos h2, Int32.add_zero]; exact ⟨p, hp, rfl⟩
  · rw [if_neg h2]
    obtain ⟨m, rfl⟩ : ∃ m, n = m + 1 := ⟨n - 1, by omega⟩
    rw [n_pred]
    have e1 : (Int32.ofNat q - Int32.ofNat p).toInt = (q : Int) - p := by
      rw [Int32.toInt_sub, i_int (by omega), i_int (by omega)]
      exact bmod_id (by omega) (by omega)
    have hb : -2805 ≤ (j : Int) * ((q : Int) - p) ∧ (j : Int) * ((q : Int) - p) ≤ 2805 := by
      have a1 : (j : Int) * ((q : Int) - p) ≤ j * 255 := Int.mul_le_mul_of_nonneg_left (by omega) (by omega)
      have a2 : (j : Int) * (-255) ≤ (j : Int) * ((q : Int) - p) := Int.mul_le_mul_of_nonneg_left (by omega) (by omega)
      omega
    have e2 : (Int32.ofNat j * (Int32.ofNat q - Int32.ofNat p)).toInt = (j : Int) * ((q : Int) - p) := by
      rw [Int32.toInt_mul, e1, i_int (by omega)]
      exact bmod_id (by omega) (by omega)
    have hk := tdiv_b (p := p) (q := q) (j := j) (m := m) (by omega) (by omega) (by omega) (by omega) (by omega) (by omega) (by omega)
    have e3 : (Int32.ofNat j * (Int32.ofNat q - Int32.ofNat p) / Int32.ofNat m).toInt = ((j : Int) * ((q : Int) - p)).tdiv m := by
      rw [Int32.toInt_div, e2, i_int (by omega)]
      exact bmod_id (by omega) (by omega)
    have e4 : (Int32.ofNat p + Int32.ofNat j * (Int32.ofNat q - Int32.ofNat p) / Int32.ofNat m).toInt = p + ((j : Int) * ((q : Int) - p)).tdiv m := by
      rw [Int32.toInt_add, e3, i_int (by omega)]
      exact bmod_id (by omega) (by omega)
    obtain ⟨a, ha, e5⟩ := i_form (x := Int32.ofNat p + Int32.ofNat j * (Int32.ofNat q - Int32.ofNat p) / Int32.ofNat m) (n := 256) (fun h9 => by
      have h8 := Int32.lt_iff_toInt_lt.mp h9
      have h7 : (0 : Int32).toInt = 0 := rfl
      omega) (by omega)
    exact ⟨a, by omega, e5⟩
theorem smal.ne {x : Int32} (h : smal x 255) : ¬ x = -1 := by
  obtain ⟨k, hk, rfl⟩ := h
  rw [n_neg (by omega)]
  exact id
theorem Inv.kfan {a : Nat} {x y : Int32} (hx : smal x 255) (hy : smal y 255) (hn : n ≤ 12) (ha : a < 4) (hf : ∀ j, j < n → ∃ q, q < 12 ∧ f j = Int32.ofNat q) : ∀ (m j : Nat) (A : St), j + m = n → Inv A B → Inv (fanF f a x y n m j A) B := by
  intro m
  induction m with
  | zero => intro j A _ h; exact h
  | succ m ih =>
    intro j A hj h
    unfold fanF
    obtain ⟨q, hq, e⟩ := hf j (by omega)
    have hv := fanV_smal hx hy (show j < n by omega) hn
    refine ih (j + 1) _ (by omega) (h.kput ?_ (Or.inr (Or.inl hv)) hv.ne)
    unfold slF
    rw [e, i_nat (by omega)]
    omega
end KEEP
