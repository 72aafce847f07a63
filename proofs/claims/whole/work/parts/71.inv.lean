/-! what holds of every state reached -/
def smal (x : Int32) (n : Nat) : Prop := ∃ k, k ≤ n ∧ x = Int32.ofNat k
def entV (e : Int32) : Prop := e = -1 ∨ smal e 255 ∨ ∃ p, p < 8 ∧ e = Int32.ofNat (256 + p)
def I1 (A : St) : Prop := smal (A 0 0 0 0) 12 ∧ smal (A 2 0 0 0) 6 ∧ ∀ g, g < 6 → ∃ n, n ≤ 12 ∧ A 3 g 0 0 = Int32.ofNat n ∧ (∀ j, j < n → ∃ q, q < 12 ∧ A 4 g 0 j = Int32.ofNat q) ∧ (∀ i j, i < j → j < n → ¬ A 4 g 0 i = A 4 g 0 j)
def I2 (A : St) : Prop := smal (A 5 0 0 0) 8 ∧ (∀ p, p < 8 → smal (A 6 0 0 p) 3) ∧ ∀ p, p < 8 → smal (A 7 0 0 p) 255
def I3 (A : St) : Prop := (∀ s, s < 48 → entV (A 9 0 0 s)) ∧ A 8 0 0 0 = cntF (A 9 0 0) (-1) 48 0 0
def I4 (A : St) : Prop := (∃ n, n ≤ 4 ∧ A 10 0 0 0 = Int32.ofNat n ∧ ∀ e, e < n → isSh (A 32 e 0 0)) ∧ ∀ e, e < 4 → (∃ g, g < 6 ∧ A 30 e 0 0 = Int32.ofNat g) ∧ ¬ A 34 e 0 0 = 0
def lnV (x : Int32) : Prop := x = -1 ∨ smal x 60
def I5 (A : St) (B : Nat) : Prop := smal (A 11 0 0 0) 5000 ∧ smal (A 12 0 0 0) B ∧ ∀ l, l < 12 → lnV (A 1 0 0 l)
def I6 (A : St) : Prop := ∀ l, l < 3 → ∃ n, n ≤ 12 ∧ A 13 l 0 0 = Int32.ofNat n ∧ (A 14 l 0 0 = -1 ∨ ∃ p, p < n ∧ A 14 l 0 0 = Int32.ofNat p) ∧ ∀ c, n ≤ c → c < 12 → ∀ s, s < 48 → A 29 l c s = -1
def I7 (A : St) (B : Nat) : Prop := ∀ l, l < 3 → ∀ s, s < 48 → fb (A 18 l 0 s).toUInt32 ∧ smal (A 19 l 0 s) 5009 ∧ smal (A 20 l 0 s) 20 ∧ smal (A 21 l 0 s) B ∧ (¬ A 21 l 0 s = 0 → ¬ srcI (A 29 l) (A 14 l 0 0) s = -1)
def I8 (A : St) : Prop := ∀ l, l < 3 → smal (A 16 l 0 0) 100 ∧ smal (A 17 l 0 0) 9 ∧ ∀ c, c < 12 → smal (A 22 l c 0) 9 ∧ smal (A 23 l c 0) 20 ∧ (A 25 l c 0 = -1 ∨ smal (A 25 l c 0) 11) ∧ isZ (A 27 l c 0)
def I9 (A : St) : Prop := ∀ l, l < 3 → ∀ c, c < 12 → A 28 l c 0 = cntF (A 29 l c) (-1) 48 0 0 ∧ ∀ s, s < 48 → entV (A 29 l c s)
def Inv (A : St) (B : Nat) : Prop := I1 A ∧ I2 A ∧ I3 A ∧ I4 A ∧ I5 A B ∧ I6 A ∧ I7 A B ∧ I8 A ∧ I9 A
theorem smal.mono {x : Int32} {m n : Nat} (h : smal x m) (hmn : m ≤ n) : smal x n := by
  obtain ⟨k, h1, h2⟩ := h
  exact ⟨k, by omega, h2⟩
theorem entV.okN {e : Int32} (h : entV e) : okN e := by
  rcases h with rfl | ⟨k, hk, rfl⟩ | ⟨p, hp, rfl⟩
  · exact Or.inl (by decide)
  · exact Or.inl ((i_lt (b := 256) (by omega) (by omega)).mpr (by omega))
  · exact Or.inr ⟨p, hp, rfl⟩
theorem numV_smal {P : Nat → Int32} {e : Int32} (hP : ∀ p, p < 8 → smal (P p) 255) (h : entV e) (hne : ¬ e = -1) : smal (numV P e) 255 := by
  unfold numV
  rcases h with h | ⟨k, hk, rfl⟩ | ⟨p, hp, rfl⟩
  · exact absurd h hne
  · have h1 : Int32.ofNat k < 256 := (i_lt (b := 256) (by omega) (by omega)).mpr (by omega)
    rw [if_pos h1]
    exact ⟨k, hk, rfl⟩
  · rw [if_neg (fun h => by have := (i_lt (b := 256) (by omega) (by omega)).mp h; omega), n_sub256, i_nat (by omega)]
    exact hP p hp
set_option maxRecDepth 100000 in
theorem p_tab : ∀ n, n < 21 → ∀ a, a < n → (FP.fdiv (FP.i2f (Int32.ofNat a)) (FP.i2f (Int32.ofNat n))).toNat ≤ 0x3f800000 := by decide +kernel
set_option maxRecDepth 100000 in
theorem m_tab : ∀ m, m < 101 → (FP.fdiv (FP.i2f (Int32.ofNat m)) 0x42c80000).toNat ≤ 0x3f800000 := by decide +kernel
set_option maxRecDepth 100000 in
theorem g_tab : ∀ g, g < 256 → (FP.i2f (Int32.ofNat g)).toNat ≤ 0x437f0000 := by decide +kernel
theorem fb_g {g : Nat} (h : g ≤ 255) : fb (FP.i2f (Int32.ofNat g)) := by
  have := g_tab g (by omega)
  unfold fb
  omega
theorem fb_0 : fb FP.fconst0 := by unfold fb; decide +kernel
section OFINV
variable {A : St} {B : Nat}
theorem Inv.okP (h : Inv A B) {l : Nat} (hl : l < 3) : okP (A 14 l 0 0) := by
  obtain ⟨n, hn, -, h2, -⟩ := h.2.2.2.2.2.1 l hl
  rcases h2 with h2 | ⟨p, hp, h2⟩
  · exact Or.inl h2
  · exact Or.inr ⟨p, by omega, h2⟩
theorem Inv.okRow (h : Inv A B) {l : Nat} (hl : l < 3) : ∀ c, c < 12 → okRow (A 29 l c) := fun c hc s hs => ((h.2.2.2.2.2.2.2.2 l hl c hc).2 s hs).okN
theorem Inv.goal (h : Inv A B) {l s : Nat} (hl : l < 3) (hs : s < 48) (hne : ¬ srcI (A 29 l) (A 14 l 0 0) s = -1) : ∃ g, g ≤ 255 ∧ goalV A l s = FP.i2f (Int32.ofNat g) := by
  rcases srcI_cases (E := A 29 l) (h.okP hl) s with h1 | ⟨k, h1, h2, h3⟩
  · exact absurd h1 hne
  · obtain ⟨g, hg, h4⟩ := numV_smal h.2.1.2.2 ((h.2.2.2.2.2.2.2.2 l hl k h1).2 s hs) h3
    refine ⟨g, hg, ?_⟩
    unfold goalV
    rw [h2, i_nat (by omega), h4]
theorem lt_smal {x : Int32} {n : Nat} {y : Int32} (h0 : ¬ x < 0) (hy : smal y n) (h : x < y) (hn : n < 2147483648) : ∃ a k, a < k ∧ k ≤ n ∧ x = Int32.ofNat a ∧ y = Int32.ofNat k := by
  obtain ⟨k, hk, rfl⟩ := hy
  obtain ⟨a, ha, rfl⟩ := i_form' h0 h (by omega)
  exact ⟨a, k, ha, hk, rfl, rfl⟩
theorem Inv.fade (h : Inv A B) {l s : Nat} {t : Int32} (hl : l < 3) (hs : s < 48) : okFd A l s t ∧ fb (fadeV A l s t) := by
  obtain ⟨f1_, f2, f3, f4, f5⟩ := h.2.2.2.2.2.2.1 l hl s hs
  have key : ¬ t - A 19 l 0 s < 0 → ¬ srcI (A 29 l) (A 14 l 0 0) s = -1 → t - A 19 l 0 s < A 20 l 0 s → (nn32 (FP.fsub (goalV A l s) (frV A l s)) = true ∧ nn32 (paV A l s t) = true ∧ nn32 (FP.fmul (FP.fsub (goalV A l s) (frV A l s)) (paV A l s t)) = true ∧ nn32 (FP.fadd (frV A l s) (FP.fmul (FP.fsub (goalV A l s) (frV A l s)) (paV A l s t))) = true) ∧ fb (FP.fadd (frV A l s) (FP.fmul (FP.fsub (goalV A l s) (frV A l s)) (paV A l s t))) := by
    intro h1 h2 h3
    obtain ⟨g, hg, hgo⟩ := h.goal hl hs h2
    obtain ⟨a, k, hak, hk, e1, e2⟩ := lt_smal h1 f3 h3 (by omega)
    have hp : f1 (paV A l s t) := by
      unfold paV
      rw [e1, e2]
      exact p_tab k (by omega) a hak
    have hpn : nn32 (paV A l s t) = true := nn_of (by unfold f1 at hp; omega)
    obtain ⟨q1, q2, q3, q4⟩ := fade_ok f1_ hp hg
    rw [hgo]
    exact ⟨⟨q1, hpn, q2, q3⟩, q4⟩
  refine ⟨fun h1 h2 h3 => (key h1 h2 h3).1, ?_⟩
  unfold fadeV
  split
  · exact f1_
  · split
    · exact f1_
    · rename_i h1 h2
      obtain ⟨g, hg, hgo⟩ := h.goal hl hs h2
      split
      · rw [hgo]; exact fb_g hg
      · split
        · rename_i h3; exact (key h1 h2 h3).2
        · rw [hgo]; exact fb_g hg
theorem Inv.put (h : Inv A B) {l s : Nat} {t : Int32} (hl : l < 3) (hs : s < 48) : okPut A l s t ∧ fb (putV A l s t) := by
  obtain ⟨k1, k2⟩ := h.fade (t := t) hl hs
  have hm : f1 (maV A l) := by
    obtain ⟨m, hm, e⟩ := (h.2.2.2.2.2.2.2.1 l hl).1
    unfold maV
    rw [e]
    exact m_tab m (by omega)
  obtain ⟨q1, q2⟩ := mul_f1 k2 hm
  refine ⟨⟨k1, fun _ => ⟨nn_of (by unfold f1 at hm; omega), q1⟩⟩, ?_⟩
  unfold putV
  split
  · exact q2
  · exact k2
theorem Inv.okDk (h : Inv A B) {s : Nat} (hs : s < 48) : okDk A s := ⟨fun _ hl => h.okP hl, fun _ hl => h.okRow hl, (h.2.2.1.1 s hs).okN, fun _ hl => (h.put hl hs).1⟩
theorem Inv.set (h : Inv A B) {s : Nat} (hs : s < 48) : fb (setV A s) := by
  unfold setV
  split
  · exact fb_0
  · rename_i h1
    split
    · by_cases h3 : A 9 0 0 s = -1
      · rename_i h2
        exfalso
        have h4 : okB (decI A s) := by
          unfold decI
          rw [if_pos h3]
          exact decF_ok 3 0 _ _ rfl (Or.inl rfl)
        rcases h4 with h4 | ⟨q, hq, h4⟩
        · exact h1 h4
        · rw [h2] at h4
          have := (i_eq (a := 3) (b := q) (by omega) (by omega)).mp h4
          omega
      · obtain ⟨g, hg, e⟩ := numV_smal h.2.1.2.2 (h.2.2.1.1 s hs) h3
        rw [e]
        exact fb_g hg
    · rename_i h2
      have h4 : okB (decI A s) := by
        unfold decI at h1 h2 ⊢
        split
        · exact decF_ok 3 0 _ _ rfl (Or.inl rfl)
        · rename_i h5
          rw [if_neg h5] at h2
          exact absurd rfl h2
      rcases h4 with h4 | ⟨q, hq, h4⟩
      · exact absurd h4 h1
      · rw [h4, i_nat (by omega)]
        exact (h.put hq hs).2
theorem okShF_of (h : Inv A B) {s n : Nat} (hn : n ≤ 4) : ∀ (m j K : Nat) (v : UInt32), j + m = n → 200 ≤ K → K + 2 * m ≤ 250 → v.toNat % 2 ^ 31 < K * 2 ^ 23 → okShF A s m j v := by
  intro m
  induction m with
  | zero => intro j K v hj hK hK2 hv; exact trivial
  | succ m ih =>
    intro j K v hj hK hK2 hv
    obtain ⟨⟨g, hg, e1⟩, hper⟩ := h.2.2.2.1.2 j (by omega)
    obtain ⟨k, hk, e2, -, -⟩ := h.1.2.2 g hg
    have hw := wavF_mag (sh := A 32 j 0 0) (sz := A 33 j 0 0) (a := atV A j (plcV A j s)) hper
    have hw2 : (wavV A j (plcV A j s)).toNat % 2 ^ 31 < K * 2 ^ 23 := Nat.lt_of_lt_of_le hw (Nat.mul_le_mul_right _ hK)
    have ha : (FP.fadd v (wavV A j (plcV A j s))).toNat % 2 ^ 31 < (K + 2) * 2 ^ 23 := FP.Core.fadd_mag hv hw2 (by omega)
    have hv2 : v.toNat % 2 ^ 31 < (K + 2) * 2 ^ 23 := Nat.lt_of_lt_of_le hv (Nat.mul_le_mul_right _ (by omega))
    have hsh : (shS A s j v).toNat % 2 ^ 31 < (K + 2) * 2 ^ 23 := by
      unfold shS
      split
      · exact hv2
      · split
        · split
          · exact hv2
          · exact ha
        · exact hv2
    exact ⟨⟨⟨g, k, hg, hk, e1, e2⟩, hper, fun _ => ⟨okW_of hper, nn_mag ha (by omega)⟩⟩, ih (j + 1) (K + 2) _ (by omega) (by omega) (by omega) hsh⟩
theorem Inv.okSh (h : Inv A B) {s : Nat} (hs : s < 48) : okSh A s := by
  obtain ⟨n, hn, e, -⟩ := h.2.2.2.1.1
  have hv := fb_mag (h.set hs)
  exact ⟨h.okDk hs, n, hn, e, okShF_of h hn n 0 200 _ (by omega) (by omega) (by omega) (by omega)⟩
theorem Inv.from (h : Inv A B) {l s : Nat} (hl : l < 3) (hs : s < 48) : fb (fromV A l s) := by
  unfold fromV
  split
  · exact h.set hs
  · exact (h.fade hl hs).2
theorem incB_inv (h : Inv A B) (hB : B < 1000000) : Inv (incB A) (B + 1) := by
  obtain ⟨h1, h2, h3, h4, h5, h6, h7, h8, h9⟩ := h
  have e : ∀ k, k ≠ 12 → incB A k = A k := fun k hk => up4_nk hk
  refine ⟨?_, ?_, ?_, ?_, ?_, ?_, ?_, ?_, ?_⟩
  · unfold I1; rw [e 0 (by omega), e 2 (by omega), e 3 (by omega), e 4 (by omega)]; exact h1
  · unfold I2; rw [e 5 (by omega), e 6 (by omega), e 7 (by omega)]; exact h2
  · unfold I3; rw [e 8 (by omega), e 9 (by omega)]; exact h3
  · unfold I4; rw [e 10 (by omega), e 30 (by omega), e 32 (by omega), e 34 (by omega)]; exact h4
  · obtain ⟨h10, ⟨k, hk, hk2⟩, h5c⟩ := h5
    refine ⟨by rw [e 11 (by omega)]; exact h10, ⟨k + 1, by omega, ?_⟩, by rw [e 1 (by omega)]; exact h5c⟩
    unfold incB
    rw [up4_eq, hk2, n_succ]
  · unfold I6; rw [e 13 (by omega), e 14 (by omega), e 29 (by omega)]; exact h6
  · intro l hl s hs
    obtain ⟨a1, a2, a3, a4, a5⟩ := h7 l hl s hs
    rw [e 18 (by omega), e 19 (by omega), e 20 (by omega), e 21 (by omega), e 29 (by omega), e 14 (by omega)]
    exact ⟨a1, a2, a3, a4.mono (by omega), a5⟩
  · unfold I8; rw [e 16 (by omega), e 17 (by omega), e 22 (by omega), e 23 (by omega), e 25 (by omega), e 27 (by omega)]; exact h8
  · unfold I9; rw [e 28 (by omega), e 29 (by omega)]; exact h9
theorem toInt32_toUInt32 (x : UInt32) : x.toInt32.toUInt32 = x := by simp
theorem begA_inv (h : Inv A B) (hB : B < 1000000) {l c n : Nat} (hl : l < 3) (hn : A 13 l 0 0 = Int32.ofNat n) (hc : c < n) (hn12 : n ≤ 12) : Inv (begA A l c) (B + 1) := by
  have hi := incB_inv h hB
  obtain ⟨h1, h2, h3, h4, h5, h6, h7, h8, h9⟩ := hi
  have hi := incB_inv h hB
  have hn' : incB A 13 l 0 0 = Int32.ofNat n := by unfold incB; rw [up4_nk (by omega)]; exact hn
  have h11 : A 11 = incB A 11 := by unfold incB; rw [up4_nk (by omega)]
  unfold begA
  rw [h11]
  generalize incB A = A1 at *
  have e : ∀ k, k ≠ 14 → k ≠ 15 → ¬ (18 ≤ k ∧ k ≤ 21) → up4 (up4 (bgA A1 l c 48) 14 l 0 0 (Int32.ofNat c)) 15 l 0 0 (A1 11 0 0 0) k = A1 k := fun k k1 k2 k3 => by rw [up4_nk k2, up4_nk k1, bg_k k3]
  have e2 : ∀ k, k ≠ 14 → k ≠ 15 → up4 (up4 (bgA A1 l c 48) 14 l 0 0 (Int32.ofNat c)) 15 l 0 0 (A1 11 0 0 0) k = bgA A1 l c 48 k := fun k k1 k2 => by rw [up4_nk k2, up4_nk k1]
  have e14 : up4 (up4 (bgA A1 l c 48) 14 l 0 0 (Int32.ofNat c)) 15 l 0 0 (A1 11 0 0 0) 14 = up4 A1 14 l 0 0 (Int32.ofNat c) 14 := by
    rw [up4_nk (by omega)]
    funext l1 c1 s1
    unfold up4
    rw [bg_k (by omega)]
  generalize up4 (up4 (bgA A1 l c 48) 14 l 0 0 (Int32.ofNat c)) 15 l 0 0 (A1 11 0 0 0) = A2 at *
  refine ⟨?_, ?_, ?_, ?_, ?_, ?_, ?_, ?_, ?_⟩
  · unfold I1; rw [e 0 (by omega) (by omega) (by omega), e 2 (by omega) (by omega) (by omega), e 3 (by omega) (by omega) (by omega), e 4 (by omega) (by omega) (by omega)]; exact h1
  · unfold I2; rw [e 5 (by omega) (by omega) (by omega), e 6 (by omega) (by omega) (by omega), e 7 (by omega) (by omega) (by omega)]; exact h2
  · unfold I3; rw [e 8 (by omega) (by omega) (by omega), e 9 (by omega) (by omega) (by omega)]; exact h3
  · unfold I4; rw [e 10 (by omega) (by omega) (by omega), e 30 (by omega) (by omega) (by omega), e 32 (by omega) (by omega) (by omega), e 34 (by omega) (by omega) (by omega)]; exact h4
  · unfold I5; rw [e 11 (by omega) (by omega) (by omega), e 12 (by omega) (by omega) (by omega), e 1 (by omega) (by omega) (by omega)]; exact h5
  · intro l1 hl1
    rw [e 13 (by omega) (by omega) (by omega), e 29 (by omega) (by omega) (by omega), e14]
    obtain ⟨n1, a1, a2, a3, a4⟩ := h6 l1 hl1
    refine ⟨n1, a1, a2, ?_, a4⟩
    by_cases hq : l1 = l
    · subst hq
      have : n1 = n := by rw [hn'] at a2; exact ((i_eq (by omega) (by omega)).mp a2).symm
      subst this
      exact Or.inr ⟨c, hc, up4_eq⟩
    · unfold up4
      rw [if_neg (by omega)]
      exact a3
  · intro l1 hl1 s hs
    rw [e 29 (by omega) (by omega) (by omega), e14, e2 18 (by omega) (by omega), e2 19 (by omega) (by omega), e2 20 (by omega) (by omega), e2 21 (by omega) (by omega)]
    obtain ⟨a1, a2, a3, a4, a5⟩ := h7 l1 hl1 s hs
    by_cases hq : l1 = l
    · subst hq
      rw [bg_18, bg_19, bg_20, bg_21, up4_eq]
      by_cases hnw : nwI A1 l1 c s = true
      · have hne : ¬ srcI (A1 29 l1) (Int32.ofNat c) s = -1 := (of_decide_eq_true hnw).1
        have hs2 : s < 48 ∧ nwI A1 l1 c s = true := ⟨hs, hnw⟩
        rw [if_pos hs2, if_pos hs2, if_pos hs2, if_pos hs2]
        obtain ⟨b1, b2, b3⟩ := h8 l1 hl1
        obtain ⟨c1, c2, -⟩ := b3 c (by omega)
        refine ⟨by rw [toInt32_toUInt32]; exact hi.from hl1 hs, ?_, c2, h5.2.1, fun _ => hne⟩
        obtain ⟨t, ht, et⟩ := h5.1
        obtain ⟨d, hd, ed⟩ := c1
        exact ⟨t + d, by omega, by rw [et, ed, n_add]⟩
      · have hs2 : ¬ (s < 48 ∧ nwI A1 l1 c s = true) := fun h9 => hnw h9.2
        rw [if_neg hs2, if_neg hs2, if_neg hs2, if_neg hs2]
        by_cases hsr : srcI (A1 29 l1) (Int32.ofNat c) s = -1
        · rw [if_pos ⟨hs, hsr⟩]
          exact ⟨a1, a2, a3, ⟨0, by omega, rfl⟩, fun h9 => absurd rfl h9⟩
        · rw [if_neg (fun h9 => hsr h9.2)]
          exact ⟨a1, a2, a3, a4, fun _ => hsr⟩
    · rw [bg_o (by omega), bg_o (by omega), bg_o (by omega), bg_o (by omega)]
      have e9 : up4 A1 14 l 0 0 (Int32.ofNat c) 14 l1 0 0 = A1 14 l1 0 0 := by unfold up4; rw [if_neg (by omega)]
      rw [e9]
      exact ⟨a1, a2, a3, a4, a5⟩
  · unfold I8; rw [e 16 (by omega) (by omega) (by omega), e 17 (by omega) (by omega) (by omega), e 22 (by omega) (by omega) (by omega), e 23 (by omega) (by omega) (by omega), e 25 (by omega) (by omega) (by omega), e 27 (by omega) (by omega) (by omega)]; exact h8
  · unfold I9; rw [e 28 (by omega) (by omega) (by omega), e 29 (by omega) (by omega) (by omega)]; exact h9
end OFINV
